/** The boundary cases that the sentences of promises 14 to 26 name, one test a sentence. */
public final class UnderEdgesTest {
    private static final int LOW = Edges.LOW;
    private static final int HIGH = Edges.HIGH;
    private static final int[] NO_POLYNOMIALS = Edges.NO_POLYNOMIALS;
    private static final int OUT = 4;
    private static final int TAPE = Picture.TAPE;
    private static final int POLYNOMIAL = Picture.POLYNOMIAL;

    private final Edges edges = new Edges("UnderEdgesTest");

    public static void main(String[] args) {
        UnderEdgesTest test = new UnderEdgesTest();
        test.hashWithoutN();
        test.hashOfN();
        test.hashNone();
        test.putModulo();
        test.putNone();
        test.numberOfEach();
        test.numberNone();
        test.forwardOfEach();
        test.forwardRefused();
        test.backOfEach();
        test.backRefused();
        test.pairsInPlace();
        test.pairsRefused();
        test.addBySign();
        test.addRefused();
        test.pressByD();
        test.pressRefused();
        test.stretchByD();
        test.stretchModulo();
        test.stretchRefused();
        test.encodeByD();
        test.encodeNone();
        test.decodeByD();
        test.decodeAnotherLength();
        test.decodeNone();
        test.sampleLowestBits();
        test.sampleAnotherLength();
        test.sampleNone();
        test.sampleLong();
        test.noiseLowestBits();
        test.noiseAnotherLength();
        test.noiseNone();
        test.edges.finish();
    }

    // ---- promise 14

    private void hashWithoutN() {
        edges.sentence("Promise 14", "0: SHA3-256, 1: SHA3-512 of it (n counts for nothing)");
        byte[][] wants = {Fips.sha3256(Rows.mixed(33)), Fips.sha3512(Rows.mixed(33))};
        for (int w = 0; w <= 1; w++) {
            int what = w;
            for (int n : new int[] {0, 1, 31, 65, 1000, 1001, -1, LOW, HIGH}) {
                Run run = edges.full(3);
                edges.changesOnly(32 + 32 * what, () -> run.hash(what, n), OUT, TAPE);
                edges.rowIsEmpty(TAPE);
                edges.rowIs(OUT, wants[what]);
            }
        }
    }

    private void hashOfN() {
        edges.sentence("Promise 14", "2: SHAKE128, 3: SHAKE256 of it, n BYTES (0 .. 1000): how many BYTES.");
        byte[][] wants = {Fips.shake128(1000, Rows.mixed(33)), Fips.shake256(1000, Rows.mixed(33))};
        for (int w = 2; w <= 3; w++) {
            int what = w;
            for (int n : new int[] {0, 1, 999, 1000}) {
                Run run = edges.full(2);
                edges.changesOnly(n, () -> run.hash(what, n), OUT, TAPE);
                edges.rowIsEmpty(TAPE);
                edges.rowIs(OUT, Fips.part(wants[what - 2], 0, n));
                edges.is(run.at(OUT, n), -1);
            }
        }
    }

    private void hashNone() {
        edges.sentence("Promise 14", "NONE, and the TAPE stays: another what, another n.");
        Run run = edges.full(3);
        for (int what : new int[] {-1, 4, LOW, HIGH}) {
            edges.leavesAll(-1, () -> run.hash(what, 32));
        }
        for (int n : new int[] {-1, 1001, LOW, HIGH}) {
            edges.leavesAll(-1, () -> run.hash(2, n));
            edges.leavesAll(-1, () -> run.hash(3, n));
            edges.leavesAll(-1, () -> run.hash(4, n));
        }
    }

    // ---- promises 15 and 16

    private void putModulo() {
        edges.sentence("Promise 15", "NUMBER i of POLYNOMIAL p is v modulo 3329 (not below 0): that.");
        int[] values = {
            0, 3328, 3329, 6657, 6658, -1, -3328, -3329, -3330, LOW, LOW + 2340, LOW + 2341, HIGH - 2341, HIGH - 2340, HIGH
        };
        int[] wants = {0, 3328, 0, 3328, 0, 3328, 1, 0, 3328, 988, 3328, 0, 3328, 0, 2340};
        for (int p = 0; p <= 3; p++) {
            for (int i : new int[] {0, 255}) {
                Run run = edges.full(3);
                for (int n = 0; n < values.length; n++) {
                    int each = n;
                    int polynomial = p;
                    edges.changesOnly(wants[n], () -> run.put(polynomial, i, values[each]), POLYNOMIAL + p);
                    edges.is(run.number(p, i), wants[n]);
                }
                run.lookAtAll();
            }
        }
    }

    private void putNone() {
        edges.sentence("Promise 15", "NONE if p is not 0 .. 3, or i not 0 .. 255.");
        Run run = edges.full(3);
        for (int p : NO_POLYNOMIALS) {
            edges.leavesAll(-1, () -> run.put(p, 0, 1));
            edges.leavesAll(-1, () -> run.put(p, 255, 1));
            edges.leavesAll(-1, () -> run.put(p, 256, 1));
        }
        for (int i : new int[] {-1, 256, LOW, HIGH}) {
            edges.leavesAll(-1, () -> run.put(0, i, 1));
            edges.leavesAll(-1, () -> run.put(3, i, 1));
        }
    }

    private void numberOfEach() {
        edges.sentence("Promise 16", "NUMBER i of POLYNOMIAL p.");
        Run run = edges.fresh();
        for (int p = 0; p <= 3; p++) {
            run.put(p, 0, 10 + p);
            run.put(p, 255, 3325 + p);
        }
        for (int p = 0; p <= 3; p++) {
            int polynomial = p;
            edges.leavesAll(10 + p, () -> run.number(polynomial, 0));
            edges.leavesAll(0, () -> run.number(polynomial, 1));
            edges.leavesAll(0, () -> run.number(polynomial, 254));
            edges.leavesAll(3325 + p, () -> run.number(polynomial, 255));
        }
    }

    private void numberNone() {
        edges.sentence("Promise 16", "NONE if there is none such.");
        Run run = edges.full(2);
        for (int p : NO_POLYNOMIALS) {
            edges.leavesAll(-1, () -> run.number(p, 0));
            edges.leavesAll(-1, () -> run.number(p, 255));
        }
        for (int i : new int[] {-1, 256, LOW, HIGH}) {
            edges.leavesAll(-1, () -> run.number(0, i));
            edges.leavesAll(-1, () -> run.number(3, i));
        }
    }

    // ---- promises 17 and 18

    private void forwardOfEach() {
        edges.sentence("Promise 17", "POLYNOMIAL p is brought FORWARD: true");
        for (int p = 0; p <= 3; p++) {
            int polynomial = p;
            Run run = edges.full(3);
            int[] want = Fips.forward(run.picture().polynomial(p));
            edges.changesOnly(1, () -> run.forward(polynomial), POLYNOMIAL + p);
            edges.polynomialIs(p, want);
        }
    }

    private void forwardRefused() {
        edges.sentence("Promise 17", "false if p is not 0 .. 3.");
        Run run = edges.full(3);
        for (int p : NO_POLYNOMIALS) {
            edges.leavesAll(0, () -> run.forward(p));
        }
    }

    private void backOfEach() {
        edges.sentence("Promise 18", "POLYNOMIAL p is brought BACK: true");
        for (int p = 0; p <= 3; p++) {
            int polynomial = p;
            Run run = edges.full(3);
            int[] want = Fips.back(run.picture().polynomial(p));
            edges.changesOnly(1, () -> run.back(polynomial), POLYNOMIAL + p);
            edges.polynomialIs(p, want);
        }
    }

    private void backRefused() {
        edges.sentence("Promise 18", "false if p is not 0 .. 3.");
        Run run = edges.full(3);
        for (int p : NO_POLYNOMIALS) {
            edges.leavesAll(0, () -> run.back(p));
        }
    }

    // ---- promises 19 and 20

    private void pairsInPlace() {
        edges.sentence("Promise 19", "POLYNOMIAL r is the PRODUCT BY PAIRS of p and q (r may be one of these, p and q the same): true");
        for (int n = 0; n < 64; n++) {
            int p = n / 16;
            int q = n / 4 % 4;
            int r = n % 4;
            Run run = edges.full(3);
            int[] want = Fips.pairs(run.picture().polynomial(p), run.picture().polynomial(q));
            edges.changesOnly(1, () -> run.pairs(p, q, r), POLYNOMIAL + r);
            edges.polynomialIs(r, want);
        }
    }

    private void pairsRefused() {
        edges.sentence("Promise 19", "false if one is not 0 .. 3.");
        Run run = edges.full(3);
        for (int bad : NO_POLYNOMIALS) {
            edges.leavesAll(0, () -> run.pairs(bad, 0, 3));
            edges.leavesAll(0, () -> run.pairs(3, bad, 0));
            edges.leavesAll(0, () -> run.pairs(0, 3, bad));
        }
    }

    private void addBySign() {
        edges.sentence("Promise 20", "POLYNOMIAL p becomes itself and sign (1 or -1) times q: true");
        int[][] sums = {{0, 0, 0, 0}, {3328, 1, 0, 3327}, {1, 3328, 0, 2}, {3328, 3328, 3327, 0}, {0, 1, 1, 3328}, {0, 3328, 3328, 1}};
        for (int[] sum : sums) {
            for (int p = 0; p <= 3; p++) {
                int polynomial = p;
                int q = (p + 1) % 4;
                Run run = edges.full(3);
                run.put(p, 0, sum[0]);
                run.put(q, 0, sum[1]);
                run.put(p, 255, sum[0]);
                run.put(q, 255, sum[1]);
                edges.changesOnly(1, () -> run.add(polynomial, q, 1), POLYNOMIAL + p);
                edges.is(run.number(p, 0), sum[2]);
                edges.is(run.number(p, 255), sum[2]);
                run.put(p, 0, sum[0]);
                run.put(p, 255, sum[0]);
                edges.changesOnly(1, () -> run.add(polynomial, q, -1), POLYNOMIAL + p);
                edges.is(run.number(p, 0), sum[3]);
                edges.is(run.number(p, 255), sum[3]);
            }
        }
        addToItself();
    }

    private void addToItself() {
        Run run = edges.fresh();
        run.put(2, 0, 1664);
        run.put(2, 1, 1665);
        run.put(2, 255, 3328);
        edges.changesOnly(1, () -> run.add(2, 2, 1), POLYNOMIAL + 2);
        edges.is(run.number(2, 0), 3328);
        edges.is(run.number(2, 1), 1);
        edges.is(run.number(2, 255), 3327);
        edges.changesOnly(1, () -> run.add(2, 2, -1), POLYNOMIAL + 2);
        for (int i = 0; i < 256; i++) {
            edges.is(run.number(2, i), 0);
        }
    }

    private void addRefused() {
        edges.sentence("Promise 20", "false if one is not 0 .. 3, or the sign another one.");
        Run run = edges.full(3);
        for (int bad : NO_POLYNOMIALS) {
            edges.leavesAll(0, () -> run.add(bad, 0, 1));
            edges.leavesAll(0, () -> run.add(3, bad, 1));
            edges.leavesAll(0, () -> run.add(bad, 3, -1));
            edges.leavesAll(0, () -> run.add(0, bad, -1));
        }
        for (int sign : new int[] {0, 2, -2, LOW, HIGH}) {
            edges.leavesAll(0, () -> run.add(0, 3, sign));
        }
    }

    // ---- promises 21 and 22

    private void pressByD() {
        edges.sentence("Promise 21", "Each NUMBER of POLYNOMIAL p is COMPRESSED by d: true");
        for (int p = 0; p <= 3; p++) {
            for (int d : new int[] {1, 11}) {
                int polynomial = p;
                Run run = edges.full(3);
                int[] want = Fips.press(run.picture().polynomial(p), d);
                edges.changesOnly(1, () -> run.press(polynomial, d), POLYNOMIAL + p);
                edges.polynomialIs(p, want);
            }
        }
    }

    private void pressRefused() {
        edges.sentence("Promise 21", "false if p is not 0 .. 3, d not 1 .. 11.");
        Run run = edges.full(3);
        for (int p : NO_POLYNOMIALS) {
            edges.leavesAll(0, () -> run.press(p, 1));
            edges.leavesAll(0, () -> run.press(p, 11));
        }
        for (int d : new int[] {0, 12, -1, 32, 33, LOW, HIGH}) {
            edges.leavesAll(0, () -> run.press(0, d));
            edges.leavesAll(0, () -> run.press(3, d));
        }
    }

    private void stretchByD() {
        edges.sentence("Promise 22", "Each NUMBER of POLYNOMIAL p, modulo 2^d, is STRETCHED by d: true");
        for (int p = 0; p <= 3; p++) {
            for (int d : new int[] {1, 11}) {
                int polynomial = p;
                Run run = edges.full(3);
                int[] want = Fips.stretch(run.picture().polynomial(p), d);
                edges.changesOnly(1, () -> run.stretch(polynomial, d), POLYNOMIAL + p);
                edges.polynomialIs(p, want);
            }
        }
    }

    private void stretchModulo() {
        edges.sentence("Promise 22", "modulo 2^d");
        for (int d = 1; d <= 11; d++) {
            int count = 1 << d;
            Run run = edges.fresh();
            int[] numbers = {0, 1, count - 1, count, count + 1, 2 * count - 1, 3328};
            for (int i = 0; i < numbers.length; i++) {
                run.put(1, i, numbers[i]);
                // Beside it stands what is left of it below 2^d.
                run.put(2, i, numbers[i] % 3329 % count);
            }
            run.stretch(1, d);
            run.stretch(2, d);
            for (int i = 0; i < numbers.length; i++) {
                edges.is(run.number(1, i), run.number(2, i));
            }
            edges.is(run.number(1, 0), 0);
            edges.is(run.number(1, 3), 0);
        }
    }

    private void stretchRefused() {
        edges.sentence("Promise 22", "false likewise.");
        Run run = edges.full(3);
        for (int p : NO_POLYNOMIALS) {
            edges.leavesAll(0, () -> run.stretch(p, 1));
            edges.leavesAll(0, () -> run.stretch(p, 11));
        }
        for (int d : new int[] {0, 12, -1, 32, 33, LOW, HIGH}) {
            edges.leavesAll(0, () -> run.stretch(0, d));
            edges.leavesAll(0, () -> run.stretch(3, d));
        }
    }

    // ---- promises 23 and 24

    private void encodeByD() {
        edges.sentence("Promise 23", "OUT is POLYNOMIAL p, ENCODED by d (1 .. 12): how many BYTES.");
        for (int p = 0; p <= 3; p++) {
            for (int d : new int[] {1, 2, 11, 12}) {
                int polynomial = p;
                Run run = edges.full(3);
                byte[] want = Fips.encode(run.picture().polynomial(p), d);
                edges.changesOnly(32 * d, () -> run.encode(polynomial, d), OUT);
                edges.rowIs(OUT, want);
            }
        }
    }

    private void encodeNone() {
        edges.sentence("Promise 23", "NONE if p or d is none such.");
        Run run = edges.full(3);
        for (int p : NO_POLYNOMIALS) {
            edges.leavesAll(-1, () -> run.encode(p, 1));
            edges.leavesAll(-1, () -> run.encode(p, 12));
        }
        for (int d : new int[] {0, 13, -1, 32, 33, LOW, HIGH}) {
            edges.leavesAll(-1, () -> run.encode(0, d));
            edges.leavesAll(-1, () -> run.encode(3, d));
        }
    }

    private void decodeByD() {
        edges.sentence("Promise 24", "32 d BYTES (d 1 .. 12); POLYNOMIAL p is that, DECODED by d: 256.");
        for (int p = 0; p <= 3; p++) {
            for (int d : new int[] {1, 2, 11, 12}) {
                int polynomial = p;
                Run run = edges.full(3);
                edges.tape(Rows.mixed(32 * d));
                edges.changesOnly(256, () -> run.decode(polynomial, d), POLYNOMIAL + p, TAPE);
                edges.rowIsEmpty(TAPE);
                edges.polynomialIs(p, Fips.decode(Rows.mixed(32 * d), d));
            }
        }
    }

    private void decodeAnotherLength() {
        edges.sentence("Promise 24", "NONE: another length;");
        for (int n = 1; n <= 12; n++) {
            int d = n;
            Run run = edges.full(3);
            for (int length : new int[] {0, 32 * d - 32, 32 * d - 1, 32 * d + 1, 32 * d + 32}) {
                edges.tape(Rows.mixed(length));
                edges.leavesAllButTape(-1, () -> run.decode(d % 4, d));
            }
        }
        Run run = edges.full(3);
        edges.tape(Rows.mixed(4000));
        edges.leavesAllButTape(-1, () -> run.decode(0, 12));
    }

    private void decodeNone() {
        edges.sentence("Promise 24", "or p or d none such (the TAPE stays then).");
        for (int length : new int[] {0, 32, 33, 384, 416}) {
            Run run = edges.full(3);
            edges.tape(Rows.mixed(length));
            for (int p : NO_POLYNOMIALS) {
                edges.leavesAll(-1, () -> run.decode(p, 1));
                edges.leavesAll(-1, () -> run.decode(p, 12));
                edges.leavesAll(-1, () -> run.decode(p, 13));
            }
            for (int d : new int[] {0, 13, -1, LOW, HIGH}) {
                edges.leavesAll(-1, () -> run.decode(0, d));
                edges.leavesAll(-1, () -> run.decode(3, d));
            }
        }
    }

    // ---- promise 25

    private void sampleLowestBits() {
        edges.sentence("Promise 25",
                "POLYNOMIAL p is the SAMPLE OF these, the BYTE j, the BYTE i (the lowest eight BITS of each): how many ROUNDS it took.");
        int[][] ways = {{0, 0}, {255, 0}, {0, 255}, {256, 0}, {0, 256}, {-1, 1}, {1, -1}, {257, 511}, {LOW, HIGH}, {HIGH, LOW}};
        for (int n = 0; n < ways.length; n++) {
            int p = n % 4;
            int i = ways[n][0];
            int j = ways[n][1];
            Run run = edges.full(3);
            edges.tape(Rows.mixed(32));
            byte[] seed = Fips.seedOf(Rows.mixed(32), j & 255, i & 255);
            edges.changesOnly(Fips.rounds(seed), () -> run.sample(p, i, j), POLYNOMIAL + p, TAPE);
            edges.rowIsEmpty(TAPE);
            edges.polynomialIs(p, Fips.sample(seed));
        }
    }

    private void sampleAnotherLength() {
        edges.sentence("Promise 25", "NONE: another length;");
        Run run = edges.full(3);
        for (int length : new int[] {0, 1, 31, 33, 34, 64}) {
            edges.tape(Rows.mixed(length));
            edges.leavesAllButTape(-1, () -> run.sample(length % 4, 0, 0));
        }
        run.bound(1);
        edges.tape(Rows.mixed(31));
        edges.leavesAllButTape(-1, () -> run.sample(0, 0, 0));
        Run whole = edges.full(3);
        edges.tape(Rows.mixed(4000));
        edges.leavesAllButTape(-1, () -> whole.sample(0, 0, 0));
    }

    private void sampleNone() {
        edges.sentence("Promise 25", "or p none such (the TAPE stays then).");
        for (int length : new int[] {0, 31, 32, 33}) {
            Run run = edges.full(3);
            edges.tape(Rows.mixed(length));
            for (int p : NO_POLYNOMIALS) {
                edges.leavesAll(-1, () -> run.sample(p, 0, 0));
            }
            run.bound(1);
            edges.leavesAll(-1, () -> run.sample(4, 0, 0));
        }
    }

    private void sampleLong() {
        edges.sentence("Promise 25", "-2: it is LONG.");
        for (int n = 0; n < Rows.knownRounds(); n++) {
            int p = n % 4;
            int rounds = Rows.roundsOf(n);
            byte[] row = Rows.eightTimes(Rows.knownSeed(n));
            Run run = edges.full(3);
            for (int most : new int[] {1, rounds - 1}) {
                run.bound(most);
                edges.tape(row);
                edges.leavesAllButTape(-2, () -> run.sample(p, 0, 0));
            }
            run.bound(rounds);
            edges.tape(row);
            edges.changesOnly(rounds, () -> run.sample(p, 0, 0), POLYNOMIAL + p, TAPE);
            run.bound(280);
            edges.tape(row);
            edges.leavesAllButTape(rounds, () -> run.sample(p, 0, 0));
        }
    }

    // ---- promise 26

    private void noiseLowestBits() {
        edges.sentence("Promise 26", "POLYNOMIAL p is the NOISE of eta from PRF of s, b (its lowest eight BITS): 256.");
        for (int n = 2; n <= 3; n++) {
            int eta = n;
            for (int b : new int[] {0, 1, 127, 128, 255, 256, 257, -1, -255, -256, LOW, HIGH}) {
                int p = b & 3;
                Run run = edges.full(3);
                // No sample is looked at, so BOUND counts for nothing.
                run.bound(1);
                edges.tape(Rows.mixed(32));
                edges.changesOnly(256, () -> run.noise(p, eta, b), POLYNOMIAL + p, TAPE);
                edges.rowIsEmpty(TAPE);
                edges.polynomialIs(p, Fips.noise(eta, Rows.mixed(32), b & 255));
            }
        }
    }

    private void noiseAnotherLength() {
        edges.sentence("Promise 26", "NONE: another length;");
        for (int n = 2; n <= 3; n++) {
            int eta = n;
            Run run = edges.full(3);
            for (int length : new int[] {0, 1, 31, 33, 64}) {
                edges.tape(Rows.mixed(length));
                edges.leavesAllButTape(-1, () -> run.noise(length % 4, eta, 0));
            }
        }
        Run whole = edges.full(3);
        edges.tape(Rows.mixed(4000));
        edges.leavesAllButTape(-1, () -> whole.noise(0, 2, 0));
    }

    private void noiseNone() {
        edges.sentence("Promise 26", "or p none such, eta neither 2 nor 3 (the TAPE stays then).");
        for (int length : new int[] {0, 31, 32, 33}) {
            Run run = edges.full(3);
            edges.tape(Rows.mixed(length));
            for (int p : NO_POLYNOMIALS) {
                edges.leavesAll(-1, () -> run.noise(p, 2, 0));
                edges.leavesAll(-1, () -> run.noise(p, 3, 0));
                edges.leavesAll(-1, () -> run.noise(p, 4, 0));
            }
            for (int eta : new int[] {1, 4, 0, -2, -3, LOW, HIGH}) {
                edges.leavesAll(-1, () -> run.noise(0, eta, 0));
                edges.leavesAll(-1, () -> run.noise(3, eta, 0));
            }
        }
    }
}
