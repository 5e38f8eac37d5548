import java.util.Arrays;

/** The boundary cases that the sentences of promises 10 to 13 name, one test a sentence. */
public final class KeysEdgesTest {
    private static final int LOW = Edges.LOW;
    private static final int HIGH = Edges.HIGH;
    private static final int EK = 0;
    private static final int DK = 1;
    private static final int TEXT = 2;
    private static final int SECRET = 3;
    private static final int TAPE = 5;

    /** By k: how many BYTES an EK, a DK and a TEXT have. */
    private static final int[][] LENGTHS = {{800, 1632, 768}, {1184, 2400, 1088}, {1568, 3168, 1568}};

    /**
     * k, a number n, and ROUNDS: with d as eightTimes(n) just one A(i, j) takes so many, and all
     * others fewer; by i, then j, each place comes once for each k. From Python over hashlib.
     */
    private static final int[][] LONGEST = {
        {2, 0, 162}, {2, 11, 162}, {2, 10, 160}, {2, 5, 163},
        {3, 38, 161}, {3, 11, 166}, {3, 0, 162}, {3, 1, 165}, {3, 14, 164}, {3, 7, 162}, {3, 3, 170},
        {3, 31, 163}, {3, 2, 166},
        {4, 19, 165}, {4, 10, 165}, {4, 23, 168}, {4, 14, 165}, {4, 6, 168}, {4, 99, 165}, {4, 58, 167},
        {4, 9, 165}, {4, 0, 175}, {4, 1, 166}, {4, 8, 170}, {4, 15, 166}, {4, 7, 165}, {4, 5, 169},
        {4, 3, 169}, {4, 30, 166}
    };

    private final Edges edges = new Edges("KeysEdgesTest");

    public static void main(String[] args) {
        KeysEdgesTest test = new KeysEdgesTest();
        for (int k = 2; k <= 4; k++) {
            test.makeOf64(k);
            test.makeNone(k);
            test.loadWhatFits(k);
            test.loadLeavesTheRest(k);
            test.loadAnotherWhat(k);
            test.loadAnotherLength(k);
            test.loadGreatGroup(k);
            test.loadLengthBeforeGroup(k);
            test.loadOtherHash(k);
            test.loadKeyWithGreatGroups(k);
            test.loadAnyText(k);
            test.wrapOf32(k);
            test.wrapWithoutKey(k);
            test.wrapNone(k);
            test.unwrapTells1Or0(k);
            test.unwrapNone(k);
        }
        for (int[] longest : LONGEST) {
            test.makeLong(longest[0], longest[1], longest[2]);
            test.wrapLong(longest[0], longest[1], longest[2]);
            test.unwrapLong(longest[0], longest[1], longest[2]);
        }
        test.edges.finish();
    }

    private static int length(int k, int what) {
        return LENGTHS[k - 2][what];
    }

    private static byte[] filled(int value, int count) {
        byte[] row = new byte[count];
        Arrays.fill(row, (byte) value);
        return row;
    }

    // ---- promise 10

    private void makeOf64(int k) {
        edges.sentence("Promise 10", "64 BYTES, d and z: EK and DK are MADE, TEXT and SECRET empty: how many BYTES EK has.");
        Run run = edges.full(k);
        edges.tape(Rows.counting(0, 64));
        edges.changesOnly(length(k, EK), run::make, EK, DK, TEXT, SECRET, TAPE);
        byte[] ek = run.picture().bytes(EK);
        edges.is("how many BYTES DK has", run.picture().bytes(DK).length, length(k, DK));
        for (int what : new int[] {TEXT, SECRET, TAPE}) {
            edges.rowIsEmpty(what);
        }
        // The last BYTE of d and the first of z: BYTES 31 and 32.
        int z = length(k, DK) - 32;
        edges.is(run.at(DK, z), 32);
        edges.is(run.at(DK, z + 31), 63);
        edges.tape(Rows.counting(0, 64));
        run.alter(32, 77);
        run.make();
        edges.rowIs(EK, ek);
        edges.is(run.at(DK, z), 77);
        edges.tape(Rows.counting(0, 64));
        run.alter(31, 77);
        run.make();
        edges.is("another d makes another EK", Arrays.equals(ek, run.picture().bytes(EK)) ? 0 : 1, 1);
        for (int value : new int[] {0, 255}) {
            edges.tape(filled(value, 64));
            edges.is(run.make(), length(k, EK));
            run.lookAtAll();
        }
    }

    private void makeNone(int k) {
        edges.sentence("Promise 10", "NONE: the TAPE has another length.");
        Run run = edges.full(k);
        for (int length : new int[] {0, 1, 32, 63, 65, 80, 128}) {
            edges.tape(Rows.counting(0, length));
            edges.leavesAllButTape(-1, run::make);
        }
        run.bound(1);
        edges.tape(Rows.counting(0, 63));
        edges.leavesAllButTape(-1, run::make);
        Run whole = edges.full(k);
        edges.tape(Rows.counting(0, 4000));
        edges.leavesAllButTape(-1, whole::make);
    }

    private void makeLong(int k, int number, int rounds) {
        edges.sentence("Promise 10", "-2: a sample is LONG.");
        byte[] dAndZ = Fips.join(Rows.eightTimes(number), Rows.counting(0, 32));
        Run run = edges.full(k);
        run.bound(rounds - 1);
        edges.tape(dAndZ);
        edges.leavesAllButTape(-2, run::make);
        run.bound(rounds);
        edges.tape(dAndZ);
        edges.changesOnly(length(k, EK), run::make, EK, DK, TEXT, SECRET, TAPE);
    }

    // ---- promise 11

    private void loadWhatFits(int k) {
        edges.sentence("Promise 11", "The TAPE is taken and becomes what: 0 EK, 1 DK, 2 TEXT, by its CHECKS");
        byte[][] keys = Fips.keys(k, Rows.mixed(32), Rows.counting(9, 32));
        byte[][] rows = {keys[0], keys[1], Rows.mixed(length(k, TEXT))};
        for (int what = 0; what <= 2; what++) {
            for (int old = 0; old <= 1; old++) {
                Run run = old == 0 ? edges.fresh() : edges.full(k);
                run.choose(k);
                edges.tape(rows[what]);
                edges.is(run.load(what), length(k, what));
                edges.rowIs(what, rows[what]);
                edges.rowIsEmpty(TAPE);
            }
        }
    }

    private void loadLeavesTheRest(int k) {
        edges.sentence("Promise 11", "what else there is stays (EK, too, behind a DK): how many BYTES.");
        byte[][] keys = Fips.keys(k, Rows.mixed(32), Rows.counting(9, 32));
        byte[][] rows = {keys[0], keys[1], Rows.mixed(length(k, TEXT))};
        for (int w = 0; w <= 2; w++) {
            int what = w;
            Run run = edges.full(k);
            edges.tape(rows[what]);
            edges.changesOnly(length(k, what), () -> run.load(what), what, TAPE);
        }
        Run run = edges.fresh();
        run.choose(k);
        edges.tape(keys[1]);
        edges.changesOnly(length(k, DK), () -> run.load(DK), DK, TAPE);
        edges.is("EK behind a DK where there was none", run.length(EK), 0);
    }

    private void loadAnotherWhat(int k) {
        edges.sentence("Promise 11", "NONE: another what (the TAPE stays then)");
        Run run = edges.full(k);
        for (int from : new int[] {EK, DK, TEXT, SECRET}) {
            run.take(from);
            for (int what : new int[] {-1, 3, 4, 5, 6, LOW, HIGH}) {
                edges.leavesAll(-1, () -> run.load(what));
            }
        }
    }

    private void loadAnotherLength(int k) {
        edges.sentence("Promise 11", "or another length.");
        for (int w = 0; w <= 2; w++) {
            int what = w;
            Run run = edges.full(k);
            for (int length : new int[] {0, length(k, what) - 1, length(k, what) + 1}) {
                run.take(what);
                run.feed(0, 0, 0, 0, 0);
                run.end(length);
                edges.leavesAllButTape(-1, () -> run.load(what));
            }
            run.take(what);
            edges.leavesAllButTape(length(k, what), () -> run.load(what));
            // The lengths of another SET.
            for (int other = 2; other <= 4; other++) {
                if (other != k) {
                    Run another = edges.full(k);
                    edges.tape(new byte[length(other, what)]);
                    edges.leavesAllButTape(-1, () -> another.load(what));
                }
            }
        }
    }

    private void loadGreatGroup(int k) {
        edges.sentence("Promise 11", "-2: an EK with a group that is not below 3329.");
        // The first two, those at the border of two POLYNOMIALS, and the last two.
        for (int group : new int[] {0, 1, 255, 256, 256 * k - 2, 256 * k - 1}) {
            for (int value : new int[] {0, 3328, 3329, 3330, 4095}) {
                loadWithGroup(k, group, value);
            }
        }
        // What stands behind the last group is rho, which may be anything.
        Run run = edges.full(k);
        run.take(EK);
        for (int i = 384 * k; i < length(k, EK); i++) {
            run.alter(i, 255);
        }
        edges.changesOnly(length(k, EK), () -> run.load(EK), EK, TAPE);
    }

    private void loadWithGroup(int k, int group, int value) {
        Run run = edges.full(k);
        run.take(EK);
        setGroup(run, group, value);
        if (value < 3329) {
            edges.changesOnly(length(k, EK), () -> run.load(EK), EK, TAPE);
        } else {
            edges.leavesAllButTape(-2, () -> run.load(EK));
        }
    }

    private static void setGroup(Run run, int group, int value) {
        int first = group / 2 * 3;
        int middle = run.at(TAPE, first + 1);
        if (group % 2 == 0) {
            run.alter(first, value);
            run.alter(first + 1, (middle & 0xF0) | value >> 8);
        } else {
            run.alter(first + 1, (middle & 0x0F) | (value & 15) << 4);
            run.alter(first + 2, value >> 4);
        }
    }

    private void loadLengthBeforeGroup(int k) {
        edges.sentence("Terms 6", "Of an EK: its length; each of its first 256 k groups of 12 BITS is below 3329.");
        Run run = edges.full(k);
        for (int more = -1; more <= 1; more += 2) {
            edges.tape(filled(255, length(k, EK) + more));
            edges.leavesAllButTape(-1, () -> run.load(EK));
        }
        Run another = edges.full(k);
        edges.tape(filled(255, length(k, EK)));
        edges.leavesAllButTape(-2, () -> another.load(EK));
        edges.tape(filled(0, length(k, EK)));
        edges.changesOnly(length(k, EK), () -> another.load(EK), EK, TAPE);
    }

    private void loadOtherHash(int k) {
        edges.sentence("Promise 11", "-3: a DK with another hash.");
        int key = 384 * k;
        int hash = key + length(k, EK);
        // The first and the last BYTE of the public key and of the hash.
        for (int place : new int[] {key, hash - 1, hash, hash + 31}) {
            for (int bit : new int[] {1, 128}) {
                Run run = edges.full(k);
                run.take(DK);
                run.alter(place, run.at(TAPE, place) ^ bit);
                edges.leavesAllButTape(-3, () -> run.load(DK));
            }
        }
        // The last BYTE before the public key, the first one behind the hash, and both ends.
        for (int place : new int[] {0, key - 1, hash + 32, length(k, DK) - 1}) {
            Run run = edges.full(k);
            run.take(DK);
            run.alter(place, run.at(TAPE, place) ^ 1);
            edges.changesOnly(length(k, DK), () -> run.load(DK), DK, TAPE);
        }
        // The length is looked at first.
        Run run = edges.full(k);
        run.take(DK);
        run.alter(hash, run.at(TAPE, hash) ^ 1);
        run.end(length(k, DK) - 1);
        edges.leavesAllButTape(-1, () -> run.load(DK));
    }

    private void loadKeyWithGreatGroups(int k) {
        edges.sentence("Terms 6", "Of a DK: its length; H of its public key is what it has behind that.");
        byte[] dk = Fips.keys(k, Rows.counting(0, 32), Rows.counting(32, 32))[1];
        byte[] inner = Rows.lifted(Fips.part(dk, 0, 384 * k));
        byte[] ek = Fips.join(Rows.lifted(Fips.part(dk, 384 * k, 384 * k)), Fips.part(dk, 768 * k, 32));
        byte[] h = Fips.sha3256(ek);
        Run run = edges.full(k);
        edges.tape(ek);
        edges.leavesAllButTape(-2, () -> run.load(EK));
        edges.tape(Fips.join(inner, ek, h, Rows.mixed(32)));
        edges.changesOnly(length(k, DK), () -> run.load(DK), DK, TAPE);
        // DECODED by 12 they count modulo 3329, so that this DK opens what it should.
        byte[] m = Rows.mixed(32);
        edges.tape(Fips.lock(k, ek, m, Fips.part(Fips.sha3512(m, h), 32, 32)));
        run.load(TEXT);
        edges.changesOnly(1, run::unwrap, SECRET);
        // All BITS 1, or all 0, but for a true hash.
        for (int value : new int[] {0, 255}) {
            byte[] key = filled(value, length(k, EK));
            Run any = edges.full(k);
            edges.tape(Fips.join(filled(value, 384 * k), key, Fips.sha3256(key), filled(value, 32)));
            edges.changesOnly(length(k, DK), () -> any.load(DK), DK, TAPE);
            edges.changesOnly(0, any::unwrap, SECRET);
            any.lookAtAll();
        }
    }

    private void loadAnyText(int k) {
        edges.sentence("Terms 6", "Of a TEXT: its length.");
        for (int value : new int[] {0, 255}) {
            Run run = edges.full(k);
            edges.tape(filled(value, length(k, TEXT)));
            edges.changesOnly(length(k, TEXT), () -> run.load(TEXT), TEXT, TAPE);
            edges.rowIs(TEXT, filled(value, length(k, TEXT)));
            edges.tape(filled(value, length(k, TEXT) - 1));
            edges.leavesAllButTape(-1, () -> run.load(TEXT));
            edges.tape(filled(value, length(k, TEXT) + 1));
            edges.leavesAllButTape(-1, () -> run.load(TEXT));
        }
        // A TEXT is taken where there is no key.
        Run alone = edges.fresh();
        alone.choose(k);
        edges.tape(Rows.mixed(length(k, TEXT)));
        edges.changesOnly(length(k, TEXT), () -> alone.load(TEXT), TEXT, TAPE);
    }

    // ---- promise 12

    private void wrapOf32(int k) {
        edges.sentence("Promise 12", "32 BYTES, m: TEXT and SECRET are WRAPPED with EK: how many BYTES TEXT has.");
        Run run = edges.full(k);
        for (byte[] m : new byte[][] {filled(0, 32), filled(255, 32), Rows.mixed(32)}) {
            edges.tape(m);
            edges.changesOnly(length(k, TEXT), run::wrap, TEXT, SECRET, TAPE);
            edges.is(run.length(SECRET), 32);
            edges.rowIsEmpty(TAPE);
            run.lookAtAll();
        }
        // With an EK that was loaded there need be no DK.
        Run alone = edges.fresh();
        alone.choose(k);
        edges.tape(Fips.keys(k, Rows.mixed(32), Rows.mixed(32))[0]);
        alone.load(EK);
        edges.tape(Rows.mixed(32));
        edges.changesOnly(length(k, TEXT), alone::wrap, TEXT, SECRET, TAPE);
        alone.lookAtAll();
    }

    private void wrapWithoutKey(int k) {
        edges.sentence("Promise 12", "NONE: there is no EK");
        Run run = edges.fresh();
        run.choose(k);
        edges.tape(Rows.mixed(32));
        edges.leavesAllButTape(-1, run::wrap);
        run.bound(1);
        edges.tape(Rows.mixed(32));
        edges.leavesAllButTape(-1, run::wrap);

        Run withPrivateKey = edges.fresh();
        withPrivateKey.choose(k);
        edges.tape(Fips.keys(k, Rows.mixed(32), Rows.mixed(32))[1]);
        withPrivateKey.load(DK);
        edges.tape(Rows.mixed(32));
        edges.leavesAllButTape(-1, withPrivateKey::wrap);

        Run chosen = edges.full(k);
        chosen.choose(k);
        edges.tape(Rows.mixed(32));
        edges.leavesAllButTape(-1, chosen::wrap);
    }

    private void wrapNone(int k) {
        edges.sentence("Promise 12", "or the TAPE has another length.");
        Run run = edges.full(k);
        for (int length : new int[] {0, 1, 31, 33, 64}) {
            edges.tape(Rows.mixed(length));
            edges.leavesAllButTape(-1, run::wrap);
        }
        run.bound(1);
        edges.tape(Rows.mixed(31));
        edges.leavesAllButTape(-1, run::wrap);
        Run whole = edges.full(k);
        edges.tape(Rows.mixed(4000));
        edges.leavesAllButTape(-1, whole::wrap);
    }

    private void wrapLong(int k, int number, int rounds) {
        edges.sentence("Promise 12", "-2: a sample is LONG.");
        Run run = madeOf(k, number);
        edges.tape(Rows.mixed(32));
        run.wrap();
        run.bound(rounds - 1);
        edges.tape(Rows.counting(7, 32));
        edges.leavesAllButTape(-2, run::wrap);
        run.bound(rounds);
        edges.tape(Rows.counting(7, 32));
        edges.changesOnly(length(k, TEXT), run::wrap, TEXT, SECRET, TAPE);
    }

    private Run madeOf(int k, int number) {
        Run run = edges.full(k);
        edges.tape(Fips.join(Rows.eightTimes(number), Rows.counting(0, 32)));
        run.make();
        return run;
    }

    // ---- promise 13

    private void unwrapTells1Or0(int k) {
        edges.sentence("Promise 13", "SECRET is TEXT UNWRAPPED with DK: 1 if m LOCKED is the TEXT, else 0.");
        Run run = edges.full(k);
        // The SECRET is the one that wrap() told.
        edges.leavesAll(1, run::unwrap);
        int last = length(k, TEXT) - 1;
        int v = last + 1 - 32 * (k == 4 ? 5 : 4);
        // The first and the last BIT of the TEXT, and those where u ends and v begins.
        int[][] bits = {{0, 1}, {0, 128}, {v - 1, 128}, {v, 1}, {last, 1}, {last, 128}};
        for (int[] bit : bits) {
            Run altered = edges.full(k);
            altered.take(TEXT);
            altered.alter(bit[0], altered.at(TAPE, bit[0]) ^ bit[1]);
            altered.load(TEXT);
            edges.changesOnly(0, altered::unwrap, SECRET);
            edges.is(altered.length(SECRET), 32);
            altered.lookAtAll();
            altered.take(TEXT);
            altered.alter(bit[0], altered.at(TAPE, bit[0]) ^ bit[1]);
            altered.load(TEXT);
            edges.changesOnly(1, altered::unwrap, SECRET);
        }
        for (int value : new int[] {0, 255}) {
            Run any = edges.full(k);
            edges.tape(filled(value, length(k, TEXT)));
            any.load(TEXT);
            edges.changesOnly(0, any::unwrap, SECRET);
            any.lookAtAll();
        }
        // EK counts for nothing, be it another one or none.
        Run otherKey = edges.full(k);
        edges.tape(Fips.keys(k, Rows.mixed(32), Rows.mixed(32))[0]);
        otherKey.load(EK);
        edges.leavesAll(1, otherKey::unwrap);
        unwrapWithoutPublicKey(k);
    }

    private void unwrapWithoutPublicKey(int k) {
        byte[][] keys = Fips.keys(k, Rows.mixed(32), Rows.mixed(32));
        Run run = edges.fresh();
        run.choose(k);
        edges.tape(keys[1]);
        run.load(DK);
        edges.tape(Fips.wrap(k, keys[0], Rows.counting(1, 32))[1]);
        run.load(TEXT);
        edges.changesOnly(1, run::unwrap, SECRET);
        run.lookAtAll();
    }

    private void unwrapNone(int k) {
        edges.sentence("Promise 13", "NONE: there is no DK, or no TEXT.");
        Run run = edges.fresh();
        run.choose(k);
        edges.tape(Rows.mixed(32));
        edges.leavesAll(-1, run::unwrap);
        run.bound(1);
        edges.leavesAll(-1, run::unwrap);

        Run noText = edges.withKeys(k);
        edges.tape(Rows.mixed(32));
        edges.leavesAll(-1, noText::unwrap);

        Run noPrivateKey = edges.fresh();
        noPrivateKey.choose(k);
        edges.tape(Fips.keys(k, Rows.mixed(32), Rows.mixed(32))[0]);
        noPrivateKey.load(EK);
        edges.tape(Rows.mixed(32));
        noPrivateKey.wrap();
        edges.tape(Rows.mixed(64));
        edges.leavesAll(-1, noPrivateKey::unwrap);

        Run chosen = edges.full(k);
        chosen.choose(k);
        edges.leavesAll(-1, chosen::unwrap);
        Run madeAnew = edges.full(k);
        edges.tape(Rows.mixed(64));
        madeAnew.make();
        edges.leavesAll(-1, madeAnew::unwrap);
    }

    private void unwrapLong(int k, int number, int rounds) {
        edges.sentence("Promise 13", "-2: a sample is LONG.");
        Run run = madeOf(k, number);
        edges.tape(Rows.mixed(32));
        run.wrap();
        // A SECRET that is not the one of this TEXT shows that none is told.
        run.take(TEXT);
        run.alter(0, run.at(TAPE, 0) ^ 1);
        run.load(TEXT);
        edges.tape(Rows.mixed(33));
        run.bound(rounds - 1);
        edges.leavesAll(-2, run::unwrap);
        run.bound(rounds);
        edges.changesOnly(0, run::unwrap, SECRET);
        run.take(TEXT);
        run.alter(0, run.at(TAPE, 0) ^ 1);
        run.load(TEXT);
        edges.changesOnly(1, run::unwrap, SECRET);
        // Where it would tell 1 it is LONG as well.
        run.bound(rounds - 1);
        edges.leavesAll(-2, run::unwrap);
    }
}
