/** Promises 15 to 22: put, number, forward, back, pairs, add, press, stretch. */
public final class PolynomialsTest {
    private static final int LOW = Integer.MIN_VALUE;
    private static final int HIGH = Integer.MAX_VALUE;
    private static final int[] NO_POLYNOMIALS = {-1, 4, 5, LOW, HIGH};

    private final Due due = new Due("PolynomialsTest");

    public static void main(String[] args) {
        PolynomialsTest test = new PolynomialsTest();
        test.putAndNumber();
        test.putRefused();
        test.forwardOfSinglePowers();
        test.forwardAndBack();
        test.pairsAsTheSchoolMultiplies();
        test.pairsInPlace();
        test.pairsOfGreatNumbers();
        test.add();
        test.pressEachNumber();
        test.stretchEachNumber();
        test.pressAndStretchEdges();
        test.refused();
        test.due.finish();
    }

    /** Four POLYNOMIALS with all sorts of NUMBERS, by way of SAMPLES. */
    private Run mixed(String name) {
        Run run = new Run(due, name);
        for (int p = 0; p < 4; p++) {
            run.bytes(Rows.counting(50 * p, 32));
            run.sample(p, p, 3);
        }
        return run;
    }

    private static int[] mixedNumbers(int p) {
        return Fips.sample(Fips.seedOf(Rows.counting(50 * p, 32), 3, p));
    }

    private void putAndNumber() {
        int[] values = {0, 1, 3328, 3329, 3330, 6657, 6658, -1, -3328, -3329, -3330, LOW, HIGH, LOW + 1};
        int[] wants = {0, 1, 3328, 0, 1, 3328, 0, 3328, 1, 0, 3328, 988, 2340, 989};
        Run run = new Run(due, "promise 15");
        for (int n = 0; n < values.length; n++) {
            due.is("promise 15: put(1, 7, " + values[n] + ")", run.put(1, 7, values[n]), wants[n]);
            due.is("promise 16: number(1, 7)", run.number(1, 7), wants[n]);
            due.is("promise 15: its neighbour", run.number(1, 6), 0);
            due.is("promise 15: its neighbour", run.number(1, 8), 0);
        }
        for (int p = 0; p < 4; p++) {
            for (int i = 0; i < 256; i += 15) {
                run.put(p, i, 1000 * p + i);
            }
        }
        run.put(0, 255, 44);
        due.is("promise 16: the last NUMBER", run.number(0, 255), 44);
        due.is("promise 16: that of another POLYNOMIAL", run.number(1, 255), 1255);
        run.lookAtAll();
    }

    private void putRefused() {
        Run run = mixed("promise 15, refused");
        for (int p : NO_POLYNOMIALS) {
            due.is("promise 15: put(" + p + ", 0, 1)", run.put(p, 0, 1), -1);
            due.is("promise 16: number(" + p + ", 0)", run.number(p, 0), -1);
        }
        for (int i : new int[] {-1, 256, 257, LOW, HIGH}) {
            due.is("promise 15: put(0, " + i + ", 1)", run.put(0, i, 1), -1);
            due.is("promise 16: number(0, " + i + ")", run.number(0, i), -1);
        }
        run.lookAtAll();
    }

    private void forwardOfSinglePowers() {
        for (int i = 0; i < 256; i += i < 8 ? 1 : 31) {
            Run run = new Run(due, "promise 17, X to " + i);
            run.put(2, i, 1);
            due.is("promise 17: forward(2)", run.forward(2), 1);
            // The first pair is modulo X^2 - 17, the second modulo X^2 + 17.
            due.is("promise 17: the first pair", run.number(2, i % 2), Fips.power(17, i / 2));
            int sign = i / 2 % 2 == 0 ? 1 : -1;
            due.is("promise 17: the second pair", run.number(2, 2 + i % 2), Math.floorMod(sign * Fips.power(17, i / 2), 3329));
            run.lookAtAll();
            due.is("promise 18: back(2)", run.back(2), 1);
            due.is("promise 18: as before", run.number(2, i), 1);
            run.lookAtAll();
        }
    }

    private void forwardAndBack() {
        for (int p = 0; p < 4; p++) {
            Run run = mixed("promises 17 and 18, " + p);
            due.is("promise 17: forward()", run.forward(p), 1);
            run.lookAtAll();
            due.is("promise 18: back()", run.back(p), 1);
            for (int i = 0; i < 256; i += 5) {
                due.is("promise 18: as before", run.number(p, i), mixedNumbers(p)[i]);
            }
            run.lookAtAll();
            due.is("promise 18: back() alone", run.back(p), 1);
            run.lookAtAll();
        }
        Run run = new Run(due, "promise 17, greatest");
        for (int i = 0; i < 256; i++) {
            run.put(0, i, 3328);
        }
        run.forward(0);
        run.lookAtAll();
        run.back(0);
        run.back(0);
        run.lookAtAll();
    }

    private void pairsAsTheSchoolMultiplies() {
        int[] product = Fips.product(mixedNumbers(0), mixedNumbers(1));
        Run run = mixed("promise 19");
        run.forward(0);
        run.forward(1);
        due.is("promise 19: pairs(0, 1, 2)", run.pairs(0, 1, 2), 1);
        run.lookAtAll();
        run.back(2);
        for (int i = 0; i < 256; i++) {
            due.is("promise 19: NUMBER " + i + " of the product", run.number(2, i), product[i]);
        }
    }

    private void pairsInPlace() {
        int[][] ways = {{0, 1, 0}, {0, 1, 1}, {2, 2, 2}, {3, 3, 0}, {1, 0, 3}};
        for (int[] way : ways) {
            Run run = mixed("promise 19, in place");
            due.is("promise 19: pairs()", run.pairs(way[0], way[1], way[2]), 1);
            run.lookAtAll();
        }
    }

    private void pairsOfGreatNumbers() {
        Run run = new Run(due, "promise 19, greatest");
        for (int i = 0; i < 256; i++) {
            run.put(0, i, 3328);
        }
        run.pairs(0, 0, 1);
        due.is("promise 19: 3328 + 3328 X, squared: 1 + 17", run.number(1, 0), 18);
        due.is("promise 19: 3328 + 3328 X, squared: 2 X", run.number(1, 1), 2);
        due.is("promise 19: 3328 + 3328 X, squared: 1 - 17", run.number(1, 2), 3313);
        run.lookAtAll();
    }

    private void add() {
        for (int sign = -1; sign <= 1; sign += 2) {
            Run run = mixed("promise 20, " + sign);
            due.is("promise 20: add(1, 2, " + sign + ")", run.add(1, 2, sign), 1);
            run.lookAtAll();
            due.is("promise 20: add(3, 3, " + sign + ")", run.add(3, 3, sign), 1);
            run.lookAtAll();
        }
        Run run = new Run(due, "promise 20, edges");
        run.put(0, 0, 3328);
        run.put(1, 0, 3328);
        run.put(1, 1, 1);
        run.put(0, 2, 3328);
        run.put(1, 2, 1);
        run.add(0, 1, 1);
        due.is("promise 20: 3328 and 3328", run.number(0, 0), 3327);
        due.is("promise 20: 3328 and 1", run.number(0, 2), 0);
        run.add(0, 1, -1);
        due.is("promise 20: 0 less 1", run.number(0, 2), 3328);
        run.add(0, 1, -1);
        due.is("promise 20: 0 and 1, less 1, less 1", run.number(0, 1), 3328);
        run.lookAtAll();
        for (int bad : new int[] {0, 2, -2, LOW, HIGH}) {
            due.is("promise 20: add(0, 1, " + bad + ")", run.add(0, 1, bad), 0);
        }
        run.lookAtAll();
    }

    /** All NUMBERS from 0 up, 250 to an object, which leaves calls to look at them. */
    private void pressEachNumber() {
        for (int d = 1; d <= 11; d++) {
            for (int start = 0; start < 3329; start += 250) {
                Run run = new Run(due, "promise 21, d " + d + " from " + start);
                for (int i = 0; i < 250; i++) {
                    run.put(1, i, start + i);
                }
                due.is("promise 21: press(1, " + d + ")", run.press(1, d), 1);
                for (int i = 0; i < 250; i++) {
                    run.number(1, i);
                }
            }
        }
    }

    private void stretchEachNumber() {
        for (int d = 1; d <= 11; d++) {
            for (int start = 0; start < 3329; start += 250) {
                Run run = new Run(due, "promise 22, d " + d + " from " + start);
                for (int i = 0; i < 250; i++) {
                    run.put(1, i, start + i);
                }
                due.is("promise 22: stretch(1, " + d + ")", run.stretch(1, d), 1);
                for (int i = 0; i < 250; i++) {
                    run.number(1, i);
                }
            }
        }
    }

    private void pressAndStretchEdges() {
        int[][] pressed = {{832, 1, 0}, {833, 1, 1}, {2496, 1, 1}, {2497, 1, 0}, {3328, 11, 2047}, {3328, 10, 0}, {1664, 10, 512}};
        for (int[] way : pressed) {
            Run run = mixed("promise 21, edges");
            run.put(0, 9, way[0]);
            run.press(0, way[1]);
            due.is("promise 21: " + way[0] + " by " + way[1], run.number(0, 9), way[2]);
            run.lookAtAll();
        }
        int[][] stretched = {{1, 1, 1665}, {3, 1, 1665}, {2, 1, 0}, {3328, 1, 0}, {15, 4, 3121}, {2047, 11, 3327}, {2048, 11, 0}, {1, 11, 2}};
        for (int[] way : stretched) {
            Run run = mixed("promise 22, edges");
            run.put(0, 9, way[0]);
            run.stretch(0, way[1]);
            due.is("promise 22: " + way[0] + " by " + way[1], run.number(0, 9), way[2]);
            run.lookAtAll();
        }
    }

    private void refused() {
        Run run = mixed("promises 17 to 22, refused");
        for (int p : NO_POLYNOMIALS) {
            due.is("promise 17: forward(" + p + ")", run.forward(p), 0);
            due.is("promise 18: back(" + p + ")", run.back(p), 0);
            due.is("promise 19: pairs(" + p + ", 0, 0)", run.pairs(p, 0, 0), 0);
            due.is("promise 19: pairs(0, " + p + ", 0)", run.pairs(0, p, 0), 0);
            due.is("promise 19: pairs(0, 0, " + p + ")", run.pairs(0, 0, p), 0);
            due.is("promise 20: add(" + p + ", 0, 1)", run.add(p, 0, 1), 0);
            due.is("promise 20: add(0, " + p + ", 1)", run.add(0, p, 1), 0);
            due.is("promise 21: press(" + p + ", 4)", run.press(p, 4), 0);
            due.is("promise 22: stretch(" + p + ", 4)", run.stretch(p, 4), 0);
        }
        for (int d : new int[] {0, 12, 13, 32, -1, LOW, HIGH}) {
            due.is("promise 21: press(0, " + d + ")", run.press(0, d), 0);
            due.is("promise 22: stretch(0, " + d + ")", run.stretch(0, d), 0);
        }
        run.lookAtAll();
    }
}
