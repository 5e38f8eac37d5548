import java.util.HexFormat;

/** Promises 10 to 13: make, load, wrap, unwrap. */
public final class KeysTest {
    private static final int LOW = Integer.MIN_VALUE;
    private static final int HIGH = Integer.MAX_VALUE;

    /**
     * For k 2, 3, 4, of d 0 .. 31, z 32 .. 63 and m 64 .. 95: SHA3-256 of EK, of DK, of TEXT, then
     * the SECRET, and the one when BIT 0 of the TEXT is another. From Python over hashlib.
     */
    private static final String[][] KNOWN = {
        {
            "82f101ff648063b376e2bb6c5b7455f655a50c2feadade150efa0e0e6f365aea",
            "0bd3f5df01098ac9c29d687c7f1bd0588a5573feeef8f1e3b4573fa7f6ab57c8",
            "e3fdddb90255869185c07cdf1c1880b2efe08b6f04da4997b693c0dea61503bd",
            "14cace3e48771b316676afad2cfcfe8488daaa4fad954e57236caa3f24a42cf7",
            "32ee1fb3f7bd2915218e9c1b2d0d2da88f0edce6804278bab3a6123c5bb64fc4"
        },
        {
            "a24e16d8f8f9383a95b77050f4d9fd2f5733eec1d63ef3c23ebf9918173669a7",
            "1149f17c3c4ac6ab1e3e2d9d8bd0171355ac0fa31bb8855c48ceade874c0864b",
            "b4cfbd24cef67afd3764276c6980e0f88f8e9ca57f59b7f12fe1a9c1e72f4710",
            "9cddd089ffe70e3996e76f7c8d06746df34d07e8657bc0fcf2bb0e1c3084aea1",
            "dcfc80c6db46ff7028e3a4398651c063ae7a42c107a6dc8cb07141861698ab92"
        },
        {
            "61349e5c131a7e116a0463861d7d18663c5627c38c7147ddaadfd48acd7a4535",
            "f0db5d938027fcd9bad87847d52c14cf0c4abcf0703b749793f212111ffb303b",
            "c1579fa02c614f3762b2a799b51e41cebb8f820f34fa736af02c56de2460ce3c",
            "0ad8d1ea1b8dd788979b4379581218df9321bdce5567eca42ae6be7d395f1a54",
            "8f2c880890996c587aa500cf8b6da03372de706a9f96075744bb0956ea6fbaac"
        }
    };

    private final Due due = new Due("KeysTest");

    public static void main(String[] args) {
        KeysTest test = new KeysTest();
        for (int k = 2; k <= 4; k++) {
            test.knownKeys(k);
            test.makeWithOtherLengths(k);
            test.makeOverKeys(k);
            test.loadKeys(k);
            test.loadOtherLengths(k);
            test.loadGreatGroups(k);
            test.loadOtherHash(k);
            test.wrapWithout(k);
            test.wrapWithLoadedKey(k);
            test.wrapAgainAndAgain(k);
            test.unwrapWithout(k);
            test.unwrapAlteredTexts(k);
            test.unwrapWithGreatGroups(k);
            test.unwrapAtTheEdge(k);
            test.longLeavesAll(k);
        }
        test.loadAnother();
        test.textBeforeKey();
        test.due.finish();
    }

    private Run withKeys(String name, int k) {
        Run run = new Run(due, name + ", k " + k);
        run.choose(k);
        run.bytes(Rows.counting(0, 64));
        run.make();
        return run;
    }

    private Run withText(String name, int k) {
        Run run = withKeys(name, k);
        run.bytes(Rows.counting(64, 32));
        run.wrap();
        return run;
    }

    private void knownKeys(int k) {
        String[] known = KNOWN[k - 2];
        Run run = withText("known", k);
        run.lookAtAll();
        due.is("promise 10: EK", run.digest(0), known[0]);
        due.is("promise 10: DK", run.digest(1), known[1]);
        due.is("promise 12: TEXT", run.digest(2), known[2]);
        due.is("promise 12: SECRET", run.hex(3), known[3]);
        due.is("promise 13: unwrap()", run.unwrap(), 1);
        due.is("promise 13: SECRET", run.hex(3), known[3]);
        run.take(2);
        run.alter(0, run.at(5, 0) ^ 1);
        run.load(2);
        due.is("promise 13: unwrap() of another TEXT", run.unwrap(), 0);
        due.is("promise 13: SECRET of another TEXT", run.hex(3), known[4]);
        run.lookAtAll();
    }

    private void makeWithOtherLengths(int k) {
        Run run = withText("promise 10, lengths", k);
        for (int length : new int[] {0, 1, 32, 63, 65, 128}) {
            run.bytes(Rows.mixed(length));
            due.is("promise 10: make() of " + length, run.make(), -1);
            due.is("promise 10: the TAPE is empty", run.length(5), 0);
        }
        run.lookAtAll();
    }

    private void makeOverKeys(int k) {
        Run run = withText("promise 10, over keys", k);
        run.bytes(Rows.mixed(20));
        run.hash(0, 0);
        run.put(1, 1, 1);
        run.bytes(Rows.mixed(64));
        due.is("promise 10: make()", run.make(), Fips.ekLength(k));
        due.is("promise 10: DK", run.length(1), Fips.dkLength(k));
        due.is("promise 10: TEXT is empty", run.length(2), 0);
        due.is("promise 10: SECRET is empty", run.length(3), 0);
        due.is("promise 10: OUT stays", run.length(4), 32);
        due.is("promise 10: the TAPE is empty", run.length(5), 0);
        run.lookAtAll();
    }

    private void loadKeys(int k) {
        byte[][] others = Fips.keys(k, Rows.mixed(32), Rows.counting(9, 32));
        byte[][] wrapped = Fips.wrap(k, others[0], Rows.counting(5, 32));
        Run run = withText("promise 11", k);
        run.bytes(others[0]);
        due.is("promise 11: load(0)", run.load(0), Fips.ekLength(k));
        due.is("promise 11: the TAPE is empty", run.length(5), 0);
        run.lookAtAll();
        run.bytes(wrapped[1]);
        due.is("promise 11: load(2)", run.load(2), Fips.textLength(k));
        run.lookAtAll();
        due.is("promise 11: the old DK does not open it", run.unwrap(), 0);

        run = withText("promise 11, DK", k);
        run.bytes(others[1]);
        due.is("promise 11: load(1)", run.load(1), Fips.dkLength(k));
        due.is("promise 11: TEXT stays", run.length(2), Fips.textLength(k));
        run.lookAtAll();
        run.bytes(wrapped[1]);
        run.load(2);
        due.is("promise 13: the DK that was loaded opens it", run.unwrap(), 1);
        due.is("promise 13: its SECRET", run.hex(3), HexFormat.of().formatHex(wrapped[0]));
    }

    private void loadOtherLengths(int k) {
        int[] lengths = {Fips.ekLength(k), Fips.dkLength(k), Fips.textLength(k)};
        for (int what = 0; what <= 2; what++) {
            Run run = withText("promise 11, lengths, " + what, k);
            due.is("promise 11: load(" + what + ") of nothing", run.load(what), -1);
            for (int more = -1; more <= 1; more += 2) {
                run.take(1);
                run.feed(0, 0, 0, 0, 0);
                run.end(lengths[what] + more);
                due.is("promise 11: load(" + what + ") of another length", run.load(what), -1);
                due.is("promise 11: the TAPE is empty", run.length(5), 0);
            }
            for (int from = 0; from <= 2; from++) {
                run.take(from);
                boolean fits = lengths[from] == lengths[what];
                // Of k 4 an EK is as long as a TEXT.
                due.is("promise 11: row " + from + " as " + what, run.load(what) >= 0, fits && (from == what || what == 2));
            }
            run.lookAtAll();
        }
    }

    private void loadGreatGroups(int k) {
        int last = 384 * k - 1;
        // The place of three BYTES, and what they hold: 3328, 3329 and 4095 as either group.
        int[] places = {0, 3, 381, 384, last - 2};
        int[][] holds = {{0x00, 0x0D, 0xD0}, {0x01, 0x0D, 0x00}, {0x00, 0x10, 0xD0}, {0xFF, 0x0F, 0}, {0, 0xF0, 0xFF}};
        for (int place : places) {
            Run run = withText("promise 11, groups at " + place, k);
            for (int n = 0; n < holds.length; n++) {
                run.take(0);
                for (int i = 0; i < 3; i++) {
                    run.alter(place + i, holds[n][i]);
                }
                due.is("promise 11: load(0), groups " + n, run.load(0), n == 0 ? Fips.ekLength(k) : -2);
                due.is("promise 11: the TAPE is empty", run.length(5), 0);
            }
            run.lookAtAll();
        }
        Run run = withText("promise 11, rho", k);
        run.take(0);
        for (int i = last + 1; i < Fips.ekLength(k); i++) {
            run.alter(i, 255);
        }
        due.is("promise 11: rho has no groups", run.load(0), Fips.ekLength(k));
        run.lookAtAll();
    }

    private void loadOtherHash(int k) {
        int key = 384 * k;
        int hash = 768 * k + 32;
        for (int place : new int[] {key, key + 100, hash - 1, hash, hash + 31}) {
            Run run = withText("promise 11, hash, " + place, k);
            run.take(1);
            run.alter(place, run.at(5, place) ^ 128);
            due.is("promise 11: load(1) with another hash", run.load(1), -3);
            due.is("promise 11: the TAPE is empty", run.length(5), 0);
            due.is("promise 11: the old DK is there", run.unwrap(), 1);
            run.lookAtAll();
        }
        for (int place : new int[] {0, key - 1, hash + 32, hash + 63}) {
            Run run = withText("promise 11, no hash, " + place, k);
            run.take(1);
            run.alter(place, run.at(5, place) ^ 128);
            due.is("promise 11: load(1) with another inner key or z", run.load(1), Fips.dkLength(k));
            run.lookAtAll();
            run.unwrap();
            run.lookAtAll();
        }
    }

    private void loadAnother() {
        Run run = withText("promise 11, another what", 2);
        run.bytes(Rows.mixed(33));
        for (int what : new int[] {-1, 3, 4, 5, 6, LOW, HIGH}) {
            due.is("promise 11: load(" + what + ")", run.load(what), -1);
            due.is("promise 11: the TAPE stays", run.length(5), 33);
        }
        run.lookAtAll();
    }

    private void wrapWithout(int k) {
        Run run = new Run(due, "promise 12, without, k " + k);
        run.choose(k);
        run.bytes(Rows.mixed(32));
        due.is("promise 12: wrap() without EK", run.wrap(), -1);
        due.is("promise 12: the TAPE is empty", run.length(5), 0);
        run.bytes(Fips.keys(k, Rows.mixed(32), Rows.mixed(32))[1]);
        run.load(1);
        run.bytes(Rows.mixed(32));
        due.is("promise 12: wrap() with a DK alone", run.wrap(), -1);
        run.lookAtAll();

        run = withText("promise 12, lengths", k);
        for (int length : new int[] {0, 1, 31, 33, 64}) {
            run.bytes(Rows.mixed(length));
            due.is("promise 12: wrap() of " + length, run.wrap(), -1);
            due.is("promise 12: the TAPE is empty", run.length(5), 0);
        }
        run.lookAtAll();
    }

    private void wrapWithLoadedKey(int k) {
        Run run = new Run(due, "promise 12, loaded, k " + k);
        run.choose(k);
        run.bytes(Fips.keys(k, Rows.counting(3, 32), Rows.mixed(32))[0]);
        run.load(0);
        run.bytes(Rows.counting(200, 32));
        due.is("promise 12: wrap()", run.wrap(), Fips.textLength(k));
        due.is("promise 12: SECRET", run.length(3), 32);
        due.is("promise 12: the TAPE is empty", run.length(5), 0);
        due.is("promise 13: there is no DK", run.unwrap(), -1);
        run.lookAtAll();
    }

    /** Many messages, since a NUMBER of v that is off by little seldom shows once it is COMPRESSED. */
    private void wrapAgainAndAgain(int k) {
        for (int key = 0; key < 10; key++) {
            Run run = new Run(due, "promise 12, again, k " + k);
            run.choose(k);
            run.bytes(Rows.counting(key, 64));
            run.make();
            for (int n = 0; n < 25; n++) {
                run.bytes(Rows.eightTimes(1000 * key + n));
                run.wrap();
                // The rest is looked at with the last one; what shows an error is each TEXT's hash.
                run.take(2);
                run.hash(0, 0);
                for (int i = 0; i < 4; i++) {
                    run.at(4, i);
                    run.at(3, i);
                }
            }
            run.lookAtAll();
        }
    }

    private void unwrapWithout(int k) {
        Run run = withKeys("promise 13, without TEXT", k);
        run.bytes(Rows.mixed(32));
        due.is("promise 13: unwrap() without TEXT", run.unwrap(), -1);
        due.is("promise 13: the TAPE stays", run.length(5), 32);
        run.lookAtAll();
        run.wrap();
        run.bytes(Rows.mixed(21));
        due.is("promise 13: unwrap()", run.unwrap(), 1);
        due.is("promise 13: the TAPE stays", run.length(5), 21);
        run.lookAtAll();
    }

    private void unwrapAlteredTexts(int k) {
        int length = Fips.textLength(k);
        int last = 32 * Fips.du(k) * k;
        for (int place : new int[] {1, last - 1, last, length - 1}) {
            Run run = withText("promise 13, altered at " + place, k);
            run.take(2);
            run.alter(place, run.at(5, place) ^ 64);
            run.load(2);
            due.is("promise 13: unwrap() of another TEXT", run.unwrap(), 0);
            due.is("promise 13: SECRET", run.length(3), 32);
            run.lookAtAll();
        }
        Run run = withKeys("promise 13, any TEXT", k);
        run.bytes(Rows.mixed(length));
        run.load(2);
        due.is("promise 13: unwrap() of any TEXT", run.unwrap(), 0);
        run.lookAtAll();
    }

    /** A DK is not looked at for groups below 3329: they count modulo 3329. */
    private void unwrapWithGreatGroups(int k) {
        byte[][] keys = Fips.keys(k, Rows.counting(0, 32), Rows.counting(32, 32));
        byte[] inner = Rows.lifted(Fips.part(keys[1], 0, 384 * k));
        byte[] ek = Fips.join(Rows.lifted(Fips.part(keys[0], 0, 384 * k)), Fips.part(keys[0], 384 * k, 32));
        byte[] h = Fips.sha3256(ek);
        byte[] m = Rows.counting(64, 32);
        byte[] both = Fips.sha3512(m, h);
        Run run = new Run(due, "promise 13, great groups, k " + k);
        run.choose(k);
        run.bytes(ek);
        due.is("promise 11: load(0) refuses them", run.load(0), -2);
        run.bytes(Fips.join(inner, ek, h, Rows.counting(32, 32)));
        due.is("promise 11: load(1) takes them", run.load(1), Fips.dkLength(k));
        run.bytes(Fips.lock(k, ek, m, Fips.part(both, 32, 32)));
        run.load(2);
        due.is("promise 13: unwrap()", run.unwrap(), 1);
        due.is("promise 13: SECRET", run.hex(3), HexFormat.of().formatHex(Fips.part(both, 0, 32)));
        run.lookAtAll();
    }

    /**
     * An inner key that moves one NUMBER of w, and no other, to where its BIT of the message just
     * stays or just turns: only the message as it was LOCKS to the TEXT again.
     */
    private void unwrapAtTheEdge(int k) {
        byte[] dk = Fips.keys(k, Rows.counting(0, 32), Rows.counting(32, 32))[1];
        byte[] ek = Fips.part(dk, 384 * k, Fips.ekLength(k));
        for (int n = 0; n < 6; n++) {
            byte[] m = Rows.eightTimes(1 + n * 0x10101);
            byte[] text = Fips.wrap(k, ek, m)[1];
            int place = 37 * n % 256;
            boolean bit = (m[place / 8] >> place % 8 & 1) == 1;
            for (int goal : new int[] {832, 833, 2496, 2497}) {
                boolean staysOne = goal == 833 || goal == 2496;
                Run run = new Run(due, "promise 13, at the edge, k " + k);
                run.choose(k);
                run.bytes(Fips.join(movedInner(k, dk, text, place, goal), Fips.part(dk, 384 * k, 384 * k + 96)));
                due.is("promise 11: load(1)", run.load(1), Fips.dkLength(k));
                run.bytes(text);
                run.load(2);
                due.is("promise 13: NUMBER " + place + " of w is " + goal, run.unwrap(), bit == staysOne ? 1 : 0);
                run.lookAtAll();
            }
        }
    }

    /** The inner key of dk, changed so that of this TEXT's w the one NUMBER becomes the goal. */
    private static byte[] movedInner(int k, byte[] dk, byte[] text, int place, int goal) {
        byte[] inner = Fips.part(dk, 0, 384 * k);
        int du = Fips.du(k);
        int[] u = Fips.forward(Fips.stretch(Fips.decode(Fips.part(text, 0, 32 * du), du), du));
        int[] move = new int[256];
        move[place] = Math.floorMod(Fips.wOf(k, inner, text)[place] - goal, 3329);
        int[] s = Fips.plus(Fips.decode(Fips.part(inner, 0, 384), 12), Fips.pairs(Fips.forward(move), inverse(u)), 1);
        return Fips.join(Fips.encode(s, 12), Fips.part(inner, 384, 384 * (k - 1)));
    }

    /** By pairs: 1 / (a + b X) is (a - b X) / (a a - b b X^2). */
    private static int[] inverse(int[] pairs) {
        int[] h = new int[256];
        for (int i = 0; i < 128; i++) {
            int a = pairs[2 * i];
            int b = pairs[2 * i + 1];
            int norm = Math.floorMod(a * a - b * b % 3329 * Fips.square(i), 3329);
            if (norm == 0) {
                throw new IllegalStateException("this TEXT has a pair with no inverse: take another");
            }
            int part = Fips.power(norm, 3327);
            h[2 * i] = a * part % 3329;
            h[2 * i + 1] = (3329 - b) * part % 3329;
        }
        return h;
    }

    private void longLeavesAll(int k) {
        Run run = withText("-2", k);
        run.bytes(Rows.mixed(17));
        run.hash(3, 100);
        for (int n : new int[] {1, 100, 139}) {
            run.bound(n);
            due.is("promise 13: unwrap(), LONG", run.unwrap(), -2);
            run.bytes(Rows.mixed(32));
            due.is("promise 12: wrap(), LONG", run.wrap(), -2);
            due.is("promise 12: the TAPE is empty", run.length(5), 0);
            run.bytes(Rows.mixed(64));
            due.is("promise 10: make(), LONG", run.make(), -2);
            due.is("promise 10: the TAPE is empty", run.length(5), 0);
        }
        run.lookAtAll();
        run.bound(280);
        due.is("promise 13: unwrap() with the old keys", run.unwrap(), 1);
        run.lookAtAll();
    }

    private void textBeforeKey() {
        Run run = new Run(due, "TEXT before DK");
        run.bytes(Rows.mixed(1088));
        due.is("promise 11: load(2) without keys", run.load(2), 1088);
        due.is("promise 13: unwrap() without DK", run.unwrap(), -1);
        run.bytes(Fips.keys(3, Rows.mixed(32), Rows.mixed(32))[1]);
        due.is("promise 11: load(1)", run.load(1), 2400);
        due.is("promise 11: EK is none", run.length(0), 0);
        due.is("promise 13: unwrap()", run.unwrap(), 0);
        run.lookAtAll();
    }
}
