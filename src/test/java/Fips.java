import java.io.ByteArrayOutputStream;
import java.util.ArrayList;
import java.util.List;

/**
 * FIPS 202 and FIPS 203 in the slowest and plainest way, straight from their formulas and with
 * nothing of the class under test: the tests hold the class against this. PublishedTest holds this
 * against published values.
 */
final class Fips {
    static final int Q = 3329;

    private Fips() {
    }

    // ---- FIPS 202

    /** A sponge that can be told from as long as wanted. */
    static final class Stream {
        private final long[][] state = new long[5][5];
        private final int rate;
        private int told;

        Stream(int rate, String suffix, byte[] row) {
            this.rate = rate;
            boolean[] padded = pad(rate, suffix, row);
            for (int start = 0; start < padded.length; start += 8 * rate) {
                for (int i = 0; i < 8 * rate; i++) {
                    if (padded[start + i]) {
                        int lane = i / 64;
                        state[lane % 5][lane / 5] ^= 1L << i % 64;
                    }
                }
                keccak(state);
            }
        }

        byte[] next(int count) {
            byte[] row = new byte[count];
            for (int i = 0; i < count; i++) {
                if (told == rate) {
                    keccak(state);
                    told = 0;
                }
                int lane = told / 8;
                row[i] = (byte) (state[lane % 5][lane / 5] >>> 8 * (told % 8));
                told++;
            }
            return row;
        }
    }

    private static boolean[] pad(int rate, String suffix, byte[] row) {
        List<Boolean> bits = new ArrayList<>();
        for (byte b : row) {
            for (int z = 0; z < 8; z++) {
                bits.add((b >> z & 1) == 1);
            }
        }
        for (char c : (suffix + "1").toCharArray()) {
            bits.add(c == '1');
        }
        while (bits.size() % (8 * rate) != 8 * rate - 1) {
            bits.add(false);
        }
        bits.add(true);
        boolean[] padded = new boolean[bits.size()];
        for (int i = 0; i < padded.length; i++) {
            padded[i] = bits.get(i);
        }
        return padded;
    }

    private static void keccak(long[][] a) {
        for (int round = 0; round < 24; round++) {
            long[] c = new long[5];
            for (int x = 0; x < 5; x++) {
                c[x] = a[x][0] ^ a[x][1] ^ a[x][2] ^ a[x][3] ^ a[x][4];
            }
            for (int x = 0; x < 5; x++) {
                for (int y = 0; y < 5; y++) {
                    a[x][y] ^= c[(x + 4) % 5] ^ Long.rotateLeft(c[(x + 1) % 5], 1);
                }
            }
            int x = 1;
            int y = 0;
            for (int t = 0; t < 24; t++) {
                a[x][y] = Long.rotateLeft(a[x][y], (t + 1) * (t + 2) / 2);
                int swap = (2 * x + 3 * y) % 5;
                x = y;
                y = swap;
            }
            long[][] b = new long[5][5];
            for (x = 0; x < 5; x++) {
                for (y = 0; y < 5; y++) {
                    b[x][y] = a[(x + 3 * y) % 5][x];
                }
            }
            for (x = 0; x < 5; x++) {
                for (y = 0; y < 5; y++) {
                    a[x][y] = b[x][y] ^ (~b[(x + 1) % 5][y] & b[(x + 2) % 5][y]);
                }
            }
            for (int j = 0; j <= 6; j++) {
                if (roundBit(j + 7 * round)) {
                    a[0][0] ^= 1L << ((1 << j) - 1);
                }
            }
        }
    }

    private static boolean roundBit(int t) {
        int r = 1;
        for (int i = 0; i < t % 255; i++) {
            r <<= 1;
            if (r > 255) {
                r ^= 0x171;
            }
        }
        return (r & 1) == 1;
    }

    static byte[] sha3256(byte[]... rows) {
        return new Stream(136, "01", join(rows)).next(32);
    }

    static byte[] sha3512(byte[]... rows) {
        return new Stream(72, "01", join(rows)).next(64);
    }

    static byte[] shake128(int count, byte[]... rows) {
        return new Stream(168, "1111", join(rows)).next(count);
    }

    static byte[] shake256(int count, byte[]... rows) {
        return new Stream(136, "1111", join(rows)).next(count);
    }

    static byte[] join(byte[]... rows) {
        ByteArrayOutputStream all = new ByteArrayOutputStream();
        for (byte[] row : rows) {
            all.write(row, 0, row.length);
        }
        return all.toByteArray();
    }

    static byte[] part(byte[] row, int start, int count) {
        byte[] piece = new byte[count];
        System.arraycopy(row, start, piece, 0, count);
        return piece;
    }

    private static byte[] one(int b) {
        return new byte[] {(byte) b};
    }

    // ---- the ring

    static int power(int base, int exponent) {
        int result = 1;
        for (int i = 0; i < exponent; i++) {
            result = result * base % Q;
        }
        return result;
    }

    /** 17^(2 R(i) + 1). */
    static int square(int i) {
        int reversed = 0;
        for (int z = 0; z < 7; z++) {
            reversed |= (i >> z & 1) << (6 - z);
        }
        return power(17, 2 * reversed + 1);
    }

    /** Each pair is f with X^2 replaced by the pair's own square. */
    static int[] forward(int[] f) {
        int[] pairs = new int[256];
        for (int i = 0; i < 128; i++) {
            int square = square(i);
            int factor = 1;
            for (int j = 0; j < 128; j++) {
                pairs[2 * i] = (pairs[2 * i] + f[2 * j] * factor) % Q;
                pairs[2 * i + 1] = (pairs[2 * i + 1] + f[2 * j + 1] * factor) % Q;
                factor = factor * square % Q;
            }
        }
        return pairs;
    }

    static int[] back(int[] pairs) {
        int[] f = new int[256];
        int part = power(128, Q - 2);
        for (int i = 0; i < 128; i++) {
            int inverse = power(square(i), Q - 2);
            int factor = part;
            for (int j = 0; j < 128; j++) {
                f[2 * j] = (f[2 * j] + pairs[2 * i] * factor) % Q;
                f[2 * j + 1] = (f[2 * j + 1] + pairs[2 * i + 1] * factor) % Q;
                factor = factor * inverse % Q;
            }
        }
        return f;
    }

    static int[] pairs(int[] f, int[] g) {
        int[] h = new int[256];
        for (int i = 0; i < 128; i++) {
            long low = (long) f[2 * i] * g[2 * i] + (long) f[2 * i + 1] * g[2 * i + 1] * square(i);
            long high = (long) f[2 * i] * g[2 * i + 1] + (long) f[2 * i + 1] * g[2 * i];
            h[2 * i] = (int) (low % Q);
            h[2 * i + 1] = (int) (high % Q);
        }
        return h;
    }

    /** The product modulo X^256 + 1, by the school's way. */
    static int[] product(int[] f, int[] g) {
        int[] h = new int[256];
        for (int i = 0; i < 256; i++) {
            for (int j = 0; j < 256; j++) {
                int term = f[i] * g[j] % Q;
                int place = (i + j) % 256;
                h[place] = (h[place] + (i + j < 256 ? term : Q - term)) % Q;
            }
        }
        return h;
    }

    static int[] plus(int[] f, int[] g, int sign) {
        int[] h = new int[256];
        for (int i = 0; i < 256; i++) {
            h[i] = Math.floorMod(f[i] + sign * g[i], Q);
        }
        return h;
    }

    /** The whole number nearest to a / b, of two the greater one. */
    static int nearest(long a, long b) {
        long below = a / b;
        return (int) (2 * (a - below * b) >= b ? below + 1 : below);
    }

    static int[] press(int[] f, int d) {
        int[] h = new int[256];
        for (int i = 0; i < 256; i++) {
            h[i] = nearest((long) f[i] * (1 << d), Q) % (1 << d);
        }
        return h;
    }

    static int[] stretch(int[] f, int d) {
        int[] h = new int[256];
        for (int i = 0; i < 256; i++) {
            h[i] = nearest((long) (f[i] % (1 << d)) * Q, 1 << d);
        }
        return h;
    }

    static byte[] encode(int[] f, int d) {
        byte[] row = new byte[32 * d];
        for (int bit = 0; bit < 256 * d; bit++) {
            row[bit / 8] |= (f[bit / d] >> bit % d & 1) << bit % 8;
        }
        return row;
    }

    /** The groups as they stand, below 3329 or not. */
    static int[] groups(byte[] row, int d) {
        int[] f = new int[256];
        for (int bit = 0; bit < 256 * d; bit++) {
            f[bit / d] |= bitOf(row, bit) << bit % d;
        }
        return f;
    }

    static int[] decode(byte[] row, int d) {
        int[] f = groups(row, d);
        for (int i = 0; i < 256; i++) {
            f[i] %= Q;
        }
        return f;
    }

    private static int bitOf(byte[] row, int bit) {
        return row[bit / 8] >> bit % 8 & 1;
    }

    // ---- samples

    /** The rounds that the sample takes with no bound. */
    static int rounds(byte[] row) {
        return fill(new int[256], row);
    }

    static int[] sample(byte[] row) {
        int[] f = new int[256];
        fill(f, row);
        return f;
    }

    private static int fill(int[] f, byte[] row) {
        Stream stream = new Stream(168, "1111", row);
        int count = 0;
        int rounds = 0;
        while (count < 256) {
            byte[] three = stream.next(3);
            rounds++;
            int whole = (three[0] & 255) + 256 * (three[1] & 255) + 65536 * (three[2] & 255);
            int x = whole % 4096;
            int y = whole / 4096;
            if (x < Q) {
                f[count++] = x;
            }
            if (y < Q && count < 256) {
                f[count++] = y;
            }
        }
        return rounds;
    }

    static byte[] seedOf(byte[] rho, int j, int i) {
        return join(rho, one(j), one(i));
    }

    static int[] noise(int eta, byte[] s, int b) {
        byte[] row = shake256(64 * eta, s, one(b));
        int[] f = new int[256];
        for (int i = 0; i < 256; i++) {
            for (int z = 0; z < eta; z++) {
                f[i] += bitOf(row, 2 * eta * i + z) - bitOf(row, 2 * eta * i + eta + z);
            }
            f[i] = Math.floorMod(f[i], Q);
        }
        return f;
    }

    // ---- the sets

    static int eta1(int k) {
        return k == 2 ? 3 : 2;
    }

    static int du(int k) {
        return k == 4 ? 11 : 10;
    }

    static int dv(int k) {
        return k == 4 ? 5 : 4;
    }

    static int ekLength(int k) {
        return 384 * k + 32;
    }

    static int dkLength(int k) {
        return 768 * k + 96;
    }

    static int textLength(int k) {
        return 32 * (du(k) * k + dv(k));
    }

    /** The most rounds that any sample of the matrix of rho takes. */
    static int longest(int k, byte[] rho) {
        int most = 0;
        for (int i = 0; i < k; i++) {
            for (int j = 0; j < k; j++) {
                most = Math.max(most, rounds(seedOf(rho, j, i)));
            }
        }
        return most;
    }

    static byte[] rhoOf(int k, byte[] d) {
        return part(sha3512(d, one(k)), 0, 32);
    }

    /** EK and DK. */
    static byte[][] keys(int k, byte[] d, byte[] z) {
        byte[] both = sha3512(d, one(k));
        byte[] rho = part(both, 0, 32);
        byte[] sigma = part(both, 32, 32);
        int[][] s = new int[k][];
        byte[] inner = {};
        for (int i = 0; i < k; i++) {
            s[i] = forward(noise(eta1(k), sigma, i));
            inner = join(inner, encode(s[i], 12));
        }
        byte[] ek = {};
        for (int i = 0; i < k; i++) {
            int[] t = forward(noise(eta1(k), sigma, k + i));
            for (int j = 0; j < k; j++) {
                t = plus(t, pairs(sample(seedOf(rho, j, i)), s[j]), 1);
            }
            ek = join(ek, encode(t, 12));
        }
        ek = join(ek, rho);
        return new byte[][] {ek, join(inner, ek, sha3256(ek), z)};
    }

    static byte[] lock(int k, byte[] ek, byte[] m, byte[] r) {
        byte[] rho = part(ek, 384 * k, 32);
        int[][] y = new int[k][];
        for (int i = 0; i < k; i++) {
            y[i] = forward(noise(eta1(k), r, i));
        }
        byte[] text = {};
        for (int i = 0; i < k; i++) {
            int[] u = new int[256];
            for (int j = 0; j < k; j++) {
                u = plus(u, pairs(sample(seedOf(rho, i, j)), y[j]), 1);
            }
            u = plus(back(u), noise(2, r, k + i), 1);
            text = join(text, encode(press(u, du(k)), du(k)));
        }
        int[] v = new int[256];
        for (int j = 0; j < k; j++) {
            v = plus(v, pairs(decode(part(ek, 384 * j, 384), 12), y[j]), 1);
        }
        v = plus(back(v), noise(2, r, 2 * k), 1);
        v = plus(v, stretch(decode(m, 1), 1), 1);
        return join(text, encode(press(v, dv(k)), dv(k)));
    }

    static int[] wOf(int k, byte[] inner, byte[] text) {
        int step = 32 * du(k);
        int[] sum = new int[256];
        for (int j = 0; j < k; j++) {
            int[] u = stretch(decode(part(text, step * j, step), du(k)), du(k));
            sum = plus(sum, pairs(decode(part(inner, 384 * j, 384), 12), forward(u)), 1);
        }
        int[] v = stretch(decode(part(text, step * k, 32 * dv(k)), dv(k)), dv(k));
        return plus(v, back(sum), -1);
    }

    static byte[] unlock(int k, byte[] inner, byte[] text) {
        return encode(press(wOf(k, inner, text), 1), 1);
    }

    /** The SECRET and the TEXT. */
    static byte[][] wrap(int k, byte[] ek, byte[] m) {
        byte[] both = sha3512(m, sha3256(ek));
        return new byte[][] {part(both, 0, 32), lock(k, ek, m, part(both, 32, 32))};
    }

    /** The SECRET, and a row of one byte: 1 if m LOCKED is the TEXT. */
    static byte[][] unwrap(int k, byte[] dk, byte[] text) {
        byte[] ek = part(dk, 384 * k, ekLength(k));
        byte[] h = part(dk, 768 * k + 32, 32);
        byte[] z = part(dk, 768 * k + 64, 32);
        byte[] m = unlock(k, part(dk, 0, 384 * k), text);
        byte[] both = sha3512(m, h);
        byte[] again = lock(k, ek, m, part(both, 32, 32));
        if (java.util.Arrays.equals(again, text)) {
            return new byte[][] {part(both, 0, 32), one(1)};
        }
        return new byte[][] {shake256(32, z, text), one(0)};
    }
}
