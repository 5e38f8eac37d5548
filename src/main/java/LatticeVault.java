import java.util.Arrays;

/**
 * A vault of lattice keys: ML-KEM (FIPS 203) with the hashes, the ring, the samples and the codes
 * under it open to view. The words in capitals are those of the document.
 */
public final class LatticeVault {
    /** There is none. */
    public static final int NONE = -1;

    private static final int LONG = -2;
    private static final int TOO_GREAT = -2;
    private static final int OTHER_HASH = -3;

    private static final int PRIME = 3329;
    private static final int NUMBERS = 256;
    private static final int POLYNOMIALS = 4;
    private static final int MOST_ROUNDS = 280;

    private static final int TAPE_ROOM = 4000;
    private static final int EK_ROOM = 1568;
    private static final int DK_ROOM = 3168;
    private static final int TEXT_ROOM = 1568;
    private static final int OUT_ROOM = 1000;
    private static final int SEED = 32;

    private static final int EK = 0;
    private static final int DK = 1;
    private static final int TEXT = 2;
    private static final int SECRET = 3;
    private static final int OUT = 4;
    private static final int TAPE = 5;

    private static final int SHA3_256 = 0;
    private static final int SHA3_512 = 1;
    private static final int SHAKE128 = 2;
    private static final int SHAKE256 = 3;

    private final Row tape = new Row(TAPE_ROOM);
    private final Row publicKey = new Row(EK_ROOM);
    private final Row privateKey = new Row(DK_ROOM);
    private final Row text = new Row(TEXT_ROOM);
    private final Row secret = new Row(SEED);
    private final Row out = new Row(OUT_ROOM);
    private final int[][] polynomials = new int[POLYNOMIALS][NUMBERS];
    private final Sponge sponge = new Sponge();
    private final Sampler sampler = new Sampler(sponge);
    private final Locksmith locksmith = new Locksmith(sponge, sampler);
    private final int[] draft = new int[NUMBERS];
    private ParameterSet set = ParameterSet.MIDDLE;
    private int mostRounds = MOST_ROUNDS;

    public LatticeVault() {
    }

    public int feed(int a, int b, int c, int d, int e) {
        if (tape.size() + 20 > TAPE_ROOM) {
            return NONE;
        }
        tape.appendWord(a);
        tape.appendWord(b);
        tape.appendWord(c);
        tape.appendWord(d);
        tape.appendWord(e);
        return tape.size();
    }

    public int end(int n) {
        if (n < 0 || n > tape.size()) {
            return NONE;
        }
        tape.cutTo(n);
        return n;
    }

    public int take(int what) {
        Row row = what == TAPE ? null : rowOf(what);
        if (row == null) {
            return NONE;
        }
        tape.become(row);
        return tape.size();
    }

    public boolean alter(int i, int v) {
        return tape.replace(i, v);
    }

    public int choose(int k) {
        ParameterSet wanted = ParameterSet.ofRank(k);
        if (wanted == null) {
            return NONE;
        }
        set = wanted;
        publicKey.clear();
        privateKey.clear();
        text.clear();
        secret.clear();
        return set.publicLength();
    }

    public int bound(int n) {
        if (n < 1 || n > MOST_ROUNDS) {
            return NONE;
        }
        mostRounds = n;
        return n;
    }

    public int length(int what) {
        Row row = rowOf(what);
        return row == null ? NONE : row.size();
    }

    public int at(int what, int i) {
        Row row = rowOf(what);
        return row == null ? NONE : row.byteAt(i);
    }

    // ---- keys

    public int make() {
        boolean fits = tape.size() == 2 * SEED;
        boolean made = fits && locksmith.makeKeys(set, tape, mostRounds);
        tape.clear();
        if (!fits) {
            return NONE;
        }
        if (!made) {
            return LONG;
        }
        privateKey.become(locksmith.draft());
        publicKey.clear();
        publicKey.appendPart(privateKey, set.innerLength(), set.publicLength());
        text.clear();
        secret.clear();
        return publicKey.size();
    }

    public int load(int what) {
        if (what != EK && what != DK && what != TEXT) {
            return NONE;
        }
        int answer = checkTapeAs(what);
        Row row = rowOf(what);
        if (answer >= 0 && row != null) {
            row.become(tape);
        }
        tape.clear();
        return answer;
    }

    public int wrap() {
        boolean fits = tape.size() == SEED && publicKey.size() > 0;
        boolean locked = false;
        if (fits) {
            locksmith.readMessage(set, publicKey, tape);
            locked = locksmith.lockMessage(set, publicKey, 0, mostRounds);
        }
        tape.clear();
        if (!fits) {
            return NONE;
        }
        if (!locked) {
            return LONG;
        }
        text.become(locksmith.draft());
        secret.clear();
        secret.appendPart(locksmith.seeds(), 0, SEED);
        return text.size();
    }

    public int unwrap() {
        if (privateKey.size() == 0 || text.size() == 0) {
            return NONE;
        }
        locksmith.unlockText(set, privateKey, text);
        if (!locksmith.lockMessage(set, privateKey, set.innerLength(), mostRounds)) {
            return LONG;
        }
        secret.clear();
        if (locksmith.draft().sameAs(text)) {
            secret.appendPart(locksmith.seeds(), 0, SEED);
            return 1;
        }
        locksmith.tellRefusal(set, privateKey, text, secret);
        return 0;
    }

    // ---- what is under them

    public int hash(int what, int n) {
        int told = hashLength(what, n);
        if (told == NONE) {
            return NONE;
        }
        sponge.begin(what);
        sponge.absorb(tape, 0, tape.size());
        sponge.finish();
        out.clear();
        sponge.tellTo(out, told);
        tape.clear();
        return told;
    }

    public int put(int p, int i, int v) {
        if (!isPolynomial(p) || i < 0 || i >= NUMBERS) {
            return NONE;
        }
        polynomials[p][i] = Math.floorMod(v, PRIME);
        return polynomials[p][i];
    }

    public int number(int p, int i) {
        if (!isPolynomial(p) || i < 0 || i >= NUMBERS) {
            return NONE;
        }
        return polynomials[p][i];
    }

    public boolean forward(int p) {
        if (!isPolynomial(p)) {
            return false;
        }
        Ring.toPairs(polynomials[p]);
        return true;
    }

    public boolean back(int p) {
        if (!isPolynomial(p)) {
            return false;
        }
        Ring.fromPairs(polynomials[p]);
        return true;
    }

    public boolean pairs(int p, int q, int r) {
        if (!isPolynomial(p) || !isPolynomial(q) || !isPolynomial(r)) {
            return false;
        }
        Ring.multiplyPairs(polynomials[p], polynomials[q], polynomials[r]);
        return true;
    }

    public boolean add(int p, int q, int sign) {
        if (!isPolynomial(p) || !isPolynomial(q) || (sign != 1 && sign != -1)) {
            return false;
        }
        Ring.addTimes(polynomials[p], polynomials[q], sign);
        return true;
    }

    public boolean press(int p, int d) {
        if (!isPolynomial(p) || d < 1 || d > 11) {
            return false;
        }
        Codes.compress(polynomials[p], d);
        return true;
    }

    public boolean stretch(int p, int d) {
        if (!isPolynomial(p) || d < 1 || d > 11) {
            return false;
        }
        Codes.decompress(polynomials[p], d);
        return true;
    }

    public int encode(int p, int d) {
        if (!isPolynomial(p) || d < 1 || d > 12) {
            return NONE;
        }
        out.clear();
        Codes.pack(polynomials[p], d, out);
        return out.size();
    }

    public int decode(int p, int d) {
        if (!isPolynomial(p) || d < 1 || d > 12) {
            return NONE;
        }
        boolean fits = tape.size() == 32 * d;
        if (fits) {
            Codes.unpack(polynomials[p], d, tape, 0);
        }
        tape.clear();
        return fits ? NUMBERS : NONE;
    }

    public int sample(int p, int i, int j) {
        if (!isPolynomial(p)) {
            return NONE;
        }
        int rounds = NONE;
        if (tape.size() == SEED) {
            rounds = sampler.drawUniform(draft, tape, 0, j, i, mostRounds);
        }
        tape.clear();
        // A LONG sample leaves NUMBERS in the draft, and none of them may be seen.
        if (rounds > 0) {
            System.arraycopy(draft, 0, polynomials[p], 0, NUMBERS);
        }
        return rounds;
    }

    public int noise(int p, int eta, int b) {
        if (!isPolynomial(p) || (eta != 2 && eta != 3)) {
            return NONE;
        }
        boolean fits = tape.size() == SEED;
        if (fits) {
            sampler.drawNoise(polynomials[p], tape, 0, eta, b);
        }
        tape.clear();
        return fits ? NUMBERS : NONE;
    }

    private static boolean isPolynomial(int p) {
        return p >= 0 && p < POLYNOMIALS;
    }

    private Row rowOf(int what) {
        switch (what) {
            case EK:
                return publicKey;
            case DK:
                return privateKey;
            case TEXT:
                return text;
            case SECRET:
                return secret;
            case OUT:
                return out;
            case TAPE:
                return tape;
            default:
                return null;
        }
    }

    /** The length of the TAPE if it passes the CHECKS of what, else what load() has to tell. */
    private int checkTapeAs(int what) {
        if (what == EK) {
            if (tape.size() != set.publicLength()) {
                return NONE;
            }
            return Codes.groupsAreSmall(tape, set.innerLength()) ? tape.size() : TOO_GREAT;
        }
        if (what == DK) {
            if (tape.size() != set.privateLength()) {
                return NONE;
            }
            return locksmith.hashIsTrue(set, tape) ? tape.size() : OTHER_HASH;
        }
        return tape.size() == set.textLength() ? tape.size() : NONE;
    }

    /** How many BYTES the hash what tells when n are asked for. */
    private static int hashLength(int what, int n) {
        switch (what) {
            case SHA3_256:
                return 32;
            case SHA3_512:
                return 64;
            case SHAKE128:
            case SHAKE256:
                return n >= 0 && n <= OUT_ROOM ? n : NONE;
            default:
                return NONE;
        }
    }

    /** THE SETS. */
    private enum ParameterSet {
        SMALL(2, 3, 10, 4),
        MIDDLE(3, 2, 10, 4),
        LARGE(4, 2, 11, 5);

        final int rank;
        final int eta1;
        final int eta2;
        final int du;
        final int dv;

        ParameterSet(int rank, int eta1, int du, int dv) {
            this.rank = rank;
            this.eta1 = eta1;
            this.eta2 = 2;
            this.du = du;
            this.dv = dv;
        }

        static ParameterSet ofRank(int k) {
            switch (k) {
                case 2:
                    return SMALL;
                case 3:
                    return MIDDLE;
                case 4:
                    return LARGE;
                default:
                    return null;
            }
        }

        int innerLength() {
            return 384 * rank;
        }

        int publicLength() {
            return 384 * rank + SEED;
        }

        int privateLength() {
            return 768 * rank + 3 * SEED;
        }

        int textLength() {
            return 32 * (du * rank + dv);
        }
    }

    /**
     * A row of BYTES. Four share one element of an array, since the room in which all calls of a
     * run live counts elements.
     */
    private static final class Row {
        private final int[] words;
        private final int room;
        private int size;

        Row(int wantedRoom) {
            room = Math.max(wantedRoom, 0);
            words = new int[(room + 3) / 4];
        }

        int size() {
            return size;
        }

        void clear() {
            size = 0;
        }

        void cutTo(int n) {
            if (n >= 0 && n < size) {
                size = n;
            }
        }

        int byteAt(int i) {
            if (i < 0 || i >= size) {
                return NONE;
            }
            return (words[i >> 2] >>> ((i & 3) << 3)) & 255;
        }

        boolean replace(int i, int v) {
            if (i < 0 || i >= size) {
                return false;
            }
            int shift = (i & 3) << 3;
            words[i >> 2] = (words[i >> 2] & ~(255 << shift)) | ((v & 255) << shift);
            return true;
        }

        void append(int v) {
            if (size < room) {
                size++;
                replace(size - 1, v);
            }
        }

        void appendWord(int v) {
            append(v >>> 24);
            append(v >>> 16);
            append(v >>> 8);
            append(v);
        }

        void appendPart(Row from, int start, int count) {
            for (int i = 0; i < count; i++) {
                append(from.byteAt(start + i));
            }
        }

        void become(Row from) {
            if (from.size > room) {
                return;
            }
            System.arraycopy(from.words, 0, words, 0, (from.size + 3) / 4);
            size = from.size;
        }

        boolean sameAs(Row other) {
            return size == other.size && partIsSame(0, other, 0, size);
        }

        boolean partIsSame(int start, Row other, int otherStart, int count) {
            for (int i = 0; i < count; i++) {
                if (byteAt(start + i) != other.byteAt(otherStart + i)) {
                    return false;
                }
            }
            return true;
        }
    }

    /** KECCAK as a SPONGE: begin, absorb, finish, then tell. */
    private static final class Sponge {
        private static final int[] RATES = {136, 72, 168, 136};

        private static final long[] ROUND_CONSTANTS = {
            0x0000000000000001L, 0x0000000000008082L, 0x800000000000808AL, 0x8000000080008000L,
            0x000000000000808BL, 0x0000000080000001L, 0x8000000080008081L, 0x8000000000008009L,
            0x000000000000008AL, 0x0000000000000088L, 0x0000000080008009L, 0x000000008000000AL,
            0x000000008000808BL, 0x800000000000008BL, 0x8000000000008089L, 0x8000000000008003L,
            0x8000000000008002L, 0x8000000000000080L, 0x000000000000800AL, 0x800000008000000AL,
            0x8000000080008081L, 0x8000000000008080L, 0x0000000080000001L, 0x8000000080008008L
        };

        // rho and pi together are one walk from LANE 1 through all but LANE 0, back to LANE 1:
        // where each step leads, and how far the LANE is turned on it.
        private static final int[] WALK = {
            10, 7, 11, 17, 18, 3, 5, 16, 8, 21, 24, 4, 15, 23, 19, 13, 12, 2, 20, 14, 22, 9, 6, 1
        };
        private static final int[] TURNS = {
            1, 3, 6, 10, 15, 21, 28, 36, 45, 55, 2, 14, 27, 41, 56, 8, 25, 43, 62, 18, 39, 61, 20, 44
        };

        private final long[] lanes = new long[25];
        private int rate = 136;
        private int suffix;
        private int place;

        void begin(int kind) {
            rate = kind >= 0 && kind < RATES.length ? RATES[kind] : 136;
            // The BITS of the SUFFIX with the 1 that stands behind them.
            suffix = kind == SHA3_256 || kind == SHA3_512 ? 0x06 : 0x1F;
            place = 0;
            Arrays.fill(lanes, 0L);
        }

        void absorbByte(int b) {
            mixIn(place, b & 255);
            place++;
            if (place == rate) {
                doRounds();
                place = 0;
            }
        }

        void absorb(Row row, int start, int count) {
            for (int i = 0; i < count; i++) {
                absorbByte(row.byteAt(start + i));
            }
        }

        void finish() {
            mixIn(place, suffix);
            mixIn(rate - 1, 0x80);
            doRounds();
            place = 0;
        }

        int tellByte() {
            if (place == rate) {
                doRounds();
                place = 0;
            }
            int told = (int) (lanes[place >> 3] >>> ((place & 7) << 3)) & 255;
            place++;
            return told;
        }

        void tellTo(Row row, int count) {
            for (int i = 0; i < count; i++) {
                row.append(tellByte());
            }
        }

        private void mixIn(int i, int b) {
            lanes[i >> 3] ^= (long) b << ((i & 7) << 3);
        }

        private void doRounds() {
            long[] a = lanes;
            for (int round = 0; round < 24; round++) {
                // theta
                long c0 = a[0] ^ a[5] ^ a[10] ^ a[15] ^ a[20];
                long c1 = a[1] ^ a[6] ^ a[11] ^ a[16] ^ a[21];
                long c2 = a[2] ^ a[7] ^ a[12] ^ a[17] ^ a[22];
                long c3 = a[3] ^ a[8] ^ a[13] ^ a[18] ^ a[23];
                long c4 = a[4] ^ a[9] ^ a[14] ^ a[19] ^ a[24];
                long d0 = c4 ^ (c1 << 1 | c1 >>> 63);
                long d1 = c0 ^ (c2 << 1 | c2 >>> 63);
                long d2 = c1 ^ (c3 << 1 | c3 >>> 63);
                long d3 = c2 ^ (c4 << 1 | c4 >>> 63);
                long d4 = c3 ^ (c0 << 1 | c0 >>> 63);
                for (int row = 0; row < 25; row += 5) {
                    a[row] ^= d0;
                    a[row + 1] ^= d1;
                    a[row + 2] ^= d2;
                    a[row + 3] ^= d3;
                    a[row + 4] ^= d4;
                }
                // rho and pi
                long carried = a[1];
                for (int step = 0; step < 24; step++) {
                    int lane = WALK[step];
                    int turn = TURNS[step];
                    long next = a[lane];
                    a[lane] = carried << turn | carried >>> (64 - turn);
                    carried = next;
                }
                // chi
                for (int row = 0; row < 25; row += 5) {
                    long b0 = a[row];
                    long b1 = a[row + 1];
                    long b2 = a[row + 2];
                    long b3 = a[row + 3];
                    long b4 = a[row + 4];
                    a[row] = b0 ^ (~b1 & b2);
                    a[row + 1] = b1 ^ (~b2 & b3);
                    a[row + 2] = b2 ^ (~b3 & b4);
                    a[row + 3] = b3 ^ (~b4 & b0);
                    a[row + 4] = b4 ^ (~b0 & b1);
                }
                // iota
                a[0] ^= ROUND_CONSTANTS[round];
            }
        }
    }

    /** THE RING. */
    private static final class Ring {
        // 17 to the power of R(i).
        private static final int[] ROOTS = {
            1, 1729, 2580, 3289, 2642, 630, 1897, 848, 1062, 1919, 193, 797, 2786, 3260, 569, 1746,
            296, 2447, 1339, 1476, 3046, 56, 2240, 1333, 1426, 2094, 535, 2882, 2393, 2879, 1974, 821,
            289, 331, 3253, 1756, 1197, 2304, 2277, 2055, 650, 1977, 2513, 632, 2865, 33, 1320, 1915,
            2319, 1435, 807, 452, 1438, 2868, 1534, 2402, 2647, 2617, 1481, 648, 2474, 3110, 1227, 910,
            17, 2761, 583, 2649, 1637, 723, 2288, 1100, 1409, 2662, 3281, 233, 756, 2156, 3015, 3050,
            1703, 1651, 2789, 1789, 1847, 952, 1461, 2687, 939, 2308, 2437, 2388, 733, 2337, 268, 641,
            1584, 2298, 2037, 3220, 375, 2549, 2090, 1645, 1063, 319, 2773, 757, 2099, 561, 2466, 2594,
            2804, 1092, 403, 1026, 1143, 2150, 2775, 886, 1722, 1212, 1874, 1029, 2110, 2935, 885, 2154
        };

        // 128 times this is 1: seven halvings are left over at the end of fromPairs.
        private static final int PART_OF_128 = 3303;

        static void toPairs(int[] f) {
            int next = 1;
            for (int half = 128; half >= 2; half >>= 1) {
                for (int start = 0; start < NUMBERS; start += 2 * half) {
                    splitBlock(f, start, half, ROOTS[next]);
                    next++;
                }
            }
        }

        static void fromPairs(int[] f) {
            int next = 127;
            for (int half = 2; half <= 128; half <<= 1) {
                for (int start = 0; start < NUMBERS; start += 2 * half) {
                    joinBlock(f, start, half, ROOTS[next]);
                    next--;
                }
            }
            for (int i = 0; i < NUMBERS; i++) {
                f[i] = f[i] * PART_OF_128 % PRIME;
            }
        }

        private static void splitBlock(int[] f, int start, int half, int root) {
            for (int i = start; i < start + half; i++) {
                int low = f[i];
                int high = f[i + half] * root % PRIME;
                f[i] = (low + high) % PRIME;
                f[i + half] = (low - high + PRIME) % PRIME;
            }
        }

        private static void joinBlock(int[] f, int start, int half, int root) {
            for (int i = start; i < start + half; i++) {
                int low = f[i];
                int high = f[i + half];
                f[i] = (low + high) % PRIME;
                f[i + half] = (high - low + PRIME) * root % PRIME;
            }
        }

        /** h becomes the PRODUCT BY PAIRS of f and g, and may be one of these. */
        static void multiplyPairs(int[] f, int[] g, int[] h) {
            for (int i = 0; i < 64; i++) {
                // Of two pairs side by side the squares of X are a root and its negative.
                int root = ROOTS[64 + i];
                multiplyPair(f, g, h, 4 * i, root);
                multiplyPair(f, g, h, 4 * i + 2, PRIME - root);
            }
        }

        private static void multiplyPair(int[] f, int[] g, int[] h, int i, int square) {
            int low = f[i] * g[i] + f[i + 1] * g[i + 1] % PRIME * square;
            int high = f[i] * g[i + 1] + f[i + 1] * g[i];
            h[i] = low % PRIME;
            h[i + 1] = high % PRIME;
        }

        static void addTimes(int[] f, int[] g, int sign) {
            for (int i = 0; i < NUMBERS; i++) {
                f[i] = (f[i] + sign * g[i] + PRIME) % PRIME;
            }
        }
    }

    /** What COMPRESSED, STRETCHED, ENCODED and DECODED mean. */
    private static final class Codes {
        static void compress(int[] f, int d) {
            int mask = (1 << d) - 1;
            for (int i = 0; i < NUMBERS; i++) {
                f[i] = (((f[i] << (d + 1)) + PRIME) / (2 * PRIME)) & mask;
            }
        }

        static void decompress(int[] f, int d) {
            int mask = (1 << d) - 1;
            int half = 1 << (d - 1);
            for (int i = 0; i < NUMBERS; i++) {
                f[i] = ((f[i] & mask) * PRIME + half) >> d;
            }
        }

        static void pack(int[] f, int d, Row to) {
            int mask = (1 << d) - 1;
            int held = 0;
            int bits = 0;
            for (int i = 0; i < NUMBERS; i++) {
                held |= (f[i] & mask) << bits;
                bits += d;
                while (bits >= 8) {
                    to.append(held);
                    held >>>= 8;
                    bits -= 8;
                }
            }
        }

        static void unpack(int[] f, int d, Row from, int start) {
            int mask = (1 << d) - 1;
            int held = 0;
            int bits = 0;
            int next = start;
            for (int i = 0; i < NUMBERS; i++) {
                while (bits < d) {
                    held |= from.byteAt(next) << bits;
                    next++;
                    bits += 8;
                }
                // Below 12 BITS there is nothing to take off.
                f[i] = (held & mask) % PRIME;
                held >>>= d;
                bits -= d;
            }
        }

        /** Of three BYTES, two groups of 12 BITS: the first one. */
        static int firstGroup(int a, int b) {
            return a | ((b & 15) << 8);
        }

        static int secondGroup(int b, int c) {
            return (b >> 4) | (c << 4);
        }

        static boolean groupsAreSmall(Row row, int count) {
            for (int i = 0; i + 2 < count; i += 3) {
                int middle = row.byteAt(i + 1);
                if (firstGroup(row.byteAt(i), middle) >= PRIME
                        || secondGroup(middle, row.byteAt(i + 2)) >= PRIME) {
                    return false;
                }
            }
            return true;
        }
    }

    /** SAMPLES. */
    private static final class Sampler {
        private final Sponge sponge;

        Sampler(Sponge sponge) {
            this.sponge = sponge;
        }

        /**
         * f becomes the SAMPLE OF 32 BYTES of the row and two BYTES more: how many ROUNDS it took,
         * or LONG, and then f holds what there was.
         */
        int drawUniform(int[] f, Row row, int start, int first, int second, int most) {
            sponge.begin(SHAKE128);
            sponge.absorb(row, start, SEED);
            sponge.absorbByte(first);
            sponge.absorbByte(second);
            sponge.finish();
            int count = 0;
            for (int round = 1; round <= most; round++) {
                int a = sponge.tellByte();
                int b = sponge.tellByte();
                int c = sponge.tellByte();
                count = keepIfSmall(f, count, Codes.firstGroup(a, b));
                count = keepIfSmall(f, count, Codes.secondGroup(b, c));
                if (count == NUMBERS) {
                    return round;
                }
            }
            return LONG;
        }

        private static int keepIfSmall(int[] f, int count, int x) {
            if (x >= PRIME || count >= NUMBERS) {
                return count;
            }
            f[count] = x;
            return count + 1;
        }

        /** f becomes the NOISE of eta from PRF of 32 BYTES of the row and b. */
        void drawNoise(int[] f, Row row, int start, int eta, int b) {
            sponge.begin(SHAKE256);
            sponge.absorb(row, start, SEED);
            sponge.absorbByte(b);
            sponge.finish();
            int mask = (1 << eta) - 1;
            int held = 0;
            int bits = 0;
            for (int i = 0; i < NUMBERS; i++) {
                while (bits < 2 * eta) {
                    held |= sponge.tellByte() << bits;
                    bits += 8;
                }
                int more = Integer.bitCount(held & mask);
                int less = Integer.bitCount((held >> eta) & mask);
                f[i] = (more - less + PRIME) % PRIME;
                held >>>= 2 * eta;
                bits -= 2 * eta;
            }
        }
    }

    /**
     * Makes keys, LOCKS and UNLOCKS. It writes into a draft of its own, since a sample may turn out
     * LONG when half the work is done, and the vault must not change then.
     */
    private static final class Locksmith {
        private final Sponge sponge;
        private final Sampler sampler;
        private final Row draft = new Row(DK_ROOM);
        private final Row seeds = new Row(2 * SEED);
        private final Row message = new Row(SEED);
        private final Row digest = new Row(SEED);
        private final int[][] vector = new int[4][NUMBERS];
        private final int[] sum = new int[NUMBERS];
        private final int[] term = new int[NUMBERS];

        Locksmith(Sponge sponge, Sampler sampler) {
            this.sponge = sponge;
            this.sampler = sampler;
        }

        Row draft() {
            return draft;
        }

        /** What G told last: rho and sigma, or the SECRET and r. */
        Row seeds() {
            return seeds;
        }

        /** The draft becomes the DK MADE from d and z; false if a sample is LONG. */
        boolean makeKeys(ParameterSet set, Row dAndZ, int most) {
            sponge.begin(SHA3_512);
            sponge.absorb(dAndZ, 0, SEED);
            sponge.absorbByte(set.rank);
            tellSeeds();
            drawVector(set);
            draft.clear();
            for (int i = 0; i < set.rank; i++) {
                Codes.pack(vector[i], 12, draft);
            }
            for (int i = 0; i < set.rank; i++) {
                sampler.drawNoise(sum, seeds, SEED, set.eta1, set.rank + i);
                Ring.toPairs(sum);
                for (int j = 0; j < set.rank; j++) {
                    if (sampler.drawUniform(term, seeds, 0, j, i, most) == LONG) {
                        return false;
                    }
                    addProduct(vector[j]);
                }
                Codes.pack(sum, 12, draft);
            }
            draft.appendPart(seeds, 0, SEED);
            tellDigest(draft, set.innerLength(), set.publicLength());
            draft.appendPart(digest, 0, SEED);
            draft.appendPart(dAndZ, SEED, SEED);
            return true;
        }

        /** The message becomes m; G of it and H of EK gives the seeds. */
        void readMessage(ParameterSet set, Row key, Row m) {
            message.become(m);
            tellDigest(key, 0, set.publicLength());
            seedFromMessage(digest, 0);
        }

        /** The message becomes the TEXT UNLOCKED; G of it and h of DK gives the seeds. */
        void unlockText(ParameterSet set, Row key, Row text) {
            int[] factor = vector[0];
            Arrays.fill(sum, 0);
            for (int j = 0; j < set.rank; j++) {
                unpackStretched(factor, text, 32 * set.du * j, set.du);
                Ring.toPairs(factor);
                Codes.unpack(term, 12, key, 384 * j);
                addProduct(factor);
            }
            Ring.fromPairs(sum);
            unpackStretched(term, text, 32 * set.du * set.rank, set.dv);
            Ring.addTimes(term, sum, -1);
            Codes.compress(term, 1);
            message.clear();
            Codes.pack(term, 1, message);
            seedFromMessage(key, set.innerLength() + set.publicLength());
        }

        /** What stands for the SECRET when the TEXT is not the one that its message LOCKS to. */
        void tellRefusal(ParameterSet set, Row key, Row text, Row to) {
            sponge.begin(SHAKE256);
            sponge.absorb(key, set.privateLength() - SEED, SEED);
            sponge.absorb(text, 0, set.textLength());
            sponge.finish();
            sponge.tellTo(to, SEED);
        }

        boolean hashIsTrue(ParameterSet set, Row key) {
            tellDigest(key, set.innerLength(), set.publicLength());
            return digest.partIsSame(0, key, set.innerLength() + set.publicLength(), SEED);
        }

        /**
         * The draft becomes the message LOCKED with the public key that begins at start, and with r
         * out of the seeds; false if a sample is LONG.
         */
        boolean lockMessage(ParameterSet set, Row key, int start, int most) {
            drawVector(set);
            draft.clear();
            for (int i = 0; i < set.rank; i++) {
                Arrays.fill(sum, 0);
                for (int j = 0; j < set.rank; j++) {
                    if (sampler.drawUniform(term, key, start + set.innerLength(), i, j, most) == LONG) {
                        return false;
                    }
                    addProduct(vector[j]);
                }
                Ring.fromPairs(sum);
                sampler.drawNoise(term, seeds, SEED, set.eta2, set.rank + i);
                Ring.addTimes(sum, term, 1);
                packCompressed(set.du);
            }
            lockLast(set, key, start);
            return true;
        }

        /** v, which alone holds the message. */
        private void lockLast(ParameterSet set, Row key, int start) {
            Arrays.fill(sum, 0);
            for (int j = 0; j < set.rank; j++) {
                Codes.unpack(term, 12, key, start + 384 * j);
                addProduct(vector[j]);
            }
            Ring.fromPairs(sum);
            sampler.drawNoise(term, seeds, SEED, set.eta2, 2 * set.rank);
            Ring.addTimes(sum, term, 1);
            unpackStretched(term, message, 0, 1);
            Ring.addTimes(sum, term, 1);
            packCompressed(set.dv);
        }

        /** s of sigma or y of r: both stand last in the seeds, and both are NOISE of eta1. */
        private void drawVector(ParameterSet set) {
            for (int i = 0; i < set.rank; i++) {
                sampler.drawNoise(vector[i], seeds, SEED, set.eta1, i);
                Ring.toPairs(vector[i]);
            }
        }

        private void addProduct(int[] factor) {
            Ring.multiplyPairs(term, factor, term);
            Ring.addTimes(sum, term, 1);
        }

        private void packCompressed(int d) {
            Codes.compress(sum, d);
            Codes.pack(sum, d, draft);
        }

        private static void unpackStretched(int[] f, Row from, int start, int d) {
            Codes.unpack(f, d, from, start);
            Codes.decompress(f, d);
        }

        private void seedFromMessage(Row hashOfKey, int start) {
            sponge.begin(SHA3_512);
            sponge.absorb(message, 0, SEED);
            sponge.absorb(hashOfKey, start, SEED);
            tellSeeds();
        }

        private void tellSeeds() {
            sponge.finish();
            seeds.clear();
            sponge.tellTo(seeds, 2 * SEED);
        }

        private void tellDigest(Row row, int start, int count) {
            sponge.begin(SHA3_256);
            sponge.absorb(row, start, count);
            sponge.finish();
            digest.clear();
            sponge.tellTo(digest, SEED);
        }
    }
}
