/** Promises 25 and 26: sample, noise. */
public final class SamplesTest {
    private static final int LOW = Integer.MIN_VALUE;
    private static final int HIGH = Integer.MAX_VALUE;
    private static final int[] LENGTHS = {0, 1, 20, 31, 33, 34, 64};

    private final Due due = new Due("SamplesTest");

    public static void main(String[] args) {
        SamplesTest test = new SamplesTest();
        test.sampleTells();
        test.sampleOrder();
        test.sampleLongAndShort();
        test.sampleAtEachBound();
        test.sampleRefused();
        test.noiseTells();
        test.noiseIsSmall();
        test.noiseRefused();
        test.due.finish();
    }

    private Run mixed(String name) {
        Run run = new Run(due, name);
        for (int p = 0; p < 4; p++) {
            run.bytes(Rows.counting(p, 32));
            run.decode(p, 1);
            run.put(p, p, 3328);
        }
        return run;
    }

    private void sampleTells() {
        for (int n = 0; n < 40; n++) {
            Run run = mixed("promise 25, " + n);
            byte[] rho = Rows.counting(3 * n, 32);
            run.bytes(rho);
            int want = Fips.rounds(Fips.seedOf(rho, n % 3, n % 4));
            due.is("promise 25: sample()", run.sample(n % 4, n % 4, n % 3), want);
            due.is("promise 25: the TAPE is empty", run.length(5), 0);
            run.lookAtAll();
        }
    }

    private void sampleOrder() {
        // BYTE j stands before BYTE i, and of each only the lowest eight BITS count.
        int[][] ways = {{1, 2}, {2, 1}, {257, 2}, {1, -254}, {LOW, HIGH}, {0, 255}, {-256, -1}};
        for (int[] way : ways) {
            Run run = new Run(due, "promise 25, order");
            run.bytes(Rows.mixed(32));
            run.sample(0, way[0], way[1]);
            byte[] seed = Fips.seedOf(Rows.mixed(32), way[1] & 255, way[0] & 255);
            due.is("promise 25: the first NUMBER", run.number(0, 0), Fips.sample(seed)[0]);
            due.is("promise 25: the last NUMBER", run.number(0, 255), Fips.sample(seed)[255]);
            run.lookAtAll();
        }
    }

    /** The longest and the shortest sample that a search of a million rows found. */
    private void sampleLongAndShort() {
        Run run = new Run(due, "promise 25, long and short");
        run.bytes(Rows.eightTimes(830271));
        due.is("promise 25: the longest", run.sample(0, 0, 0), 181);
        run.bytes(Rows.eightTimes(842818));
        due.is("promise 25: the shortest", run.sample(1, 0, 0), 139);
        run.lookAtAll();
    }

    private void sampleAtEachBound() {
        // Both ends are met: a 256th NUMBER that is an x, with a y behind it, and one that is a y.
        for (int n = 0; n < 12; n++) {
            byte[] rho = Rows.counting(11 * n, 32);
            int rounds = Fips.rounds(Fips.seedOf(rho, 0, 0));
            Run run = mixed("promise 25, bound, " + n);
            run.bound(rounds - 1);
            run.bytes(rho);
            due.is("promise 25: LONG", run.sample(2, 0, 0), -2);
            due.is("promise 25: the TAPE is empty", run.length(5), 0);
            run.lookAtAll();
            run.bound(rounds);
            run.bytes(rho);
            due.is("promise 25: just in time", run.sample(2, 0, 0), rounds);
            run.lookAtAll();
        }
    }

    private void sampleRefused() {
        Run run = mixed("promise 25, refused");
        for (int length : LENGTHS) {
            run.bytes(Rows.mixed(length));
            due.is("promise 25: sample() of " + length, run.sample(0, 0, 0), -1);
            due.is("promise 25: the TAPE is empty", run.length(5), 0);
        }
        run.bytes(Rows.mixed(32));
        for (int bad : new int[] {-1, 4, LOW, HIGH}) {
            due.is("promise 25: sample(" + bad + ", 0, 0)", run.sample(bad, 0, 0), -1);
            due.is("promise 25: the TAPE stays", run.length(5), 32);
        }
        run.lookAtAll();
    }

    private void noiseTells() {
        for (int eta = 2; eta <= 3; eta++) {
            for (int b : new int[] {0, 1, 2, 127, 128, 255, 256, 257, -1, LOW, HIGH}) {
                Run run = mixed("promise 26, eta " + eta);
                run.bytes(Rows.counting(b, 32));
                int p = b & 3;
                due.is("promise 26: noise()", run.noise(p, eta, b), 256);
                due.is("promise 26: the TAPE is empty", run.length(5), 0);
                int[] want = Fips.noise(eta, Rows.counting(b, 32), b & 255);
                for (int i = 0; i < 256; i += 17) {
                    due.is("promise 26: NUMBER " + i, run.number(p, i), want[i]);
                }
                run.lookAtAll();
            }
        }
    }

    private void noiseIsSmall() {
        for (int eta = 2; eta <= 3; eta++) {
            Run run = new Run(due, "promise 26, small");
            run.bytes(Rows.mixed(32));
            run.noise(0, eta, 5);
            int seen = 0;
            for (int i = 0; i < 256; i++) {
                int x = run.number(0, i);
                due.is("promise 26: no farther than eta", x <= eta || x >= 3329 - eta && x < 3329, true);
                seen |= 1 << (x + eta) % 3329;
            }
            due.is("promise 26: each NUMBER as far as eta is met", seen, (1 << 2 * eta + 1) - 1);
        }
    }

    private void noiseRefused() {
        Run run = mixed("promise 26, refused");
        for (int length : LENGTHS) {
            run.bytes(Rows.mixed(length));
            due.is("promise 26: noise() of " + length, run.noise(0, 2, 0), -1);
            due.is("promise 26: the TAPE is empty", run.length(5), 0);
        }
        run.bytes(Rows.mixed(32));
        for (int bad : new int[] {-1, 4, LOW, HIGH}) {
            due.is("promise 26: noise(" + bad + ", 2, 0)", run.noise(bad, 2, 0), -1);
        }
        for (int bad : new int[] {0, 1, 4, -2, LOW, HIGH}) {
            due.is("promise 26: noise(0, " + bad + ", 0)", run.noise(0, bad, 0), -1);
        }
        due.is("promise 26: the TAPE stays", run.length(5), 32);
        run.lookAtAll();
        due.is("promise 26: and serves", run.noise(0, 2, 0), 256);
    }
}
