/** Promises 23 and 24: encode, decode. */
public final class CodesTest {
    private static final int LOW = Integer.MIN_VALUE;
    private static final int HIGH = Integer.MAX_VALUE;

    private final Due due = new Due("CodesTest");

    public static void main(String[] args) {
        CodesTest test = new CodesTest();
        test.encodeByEach();
        test.encodeFirstBits();
        test.encodeRefused();
        test.decodeByEach();
        test.decodeAllOnes();
        test.decodeOtherLengths();
        test.decodeRefused();
        test.thereAndBack();
        test.due.finish();
    }

    private Run mixed(String name) {
        Run run = new Run(due, name);
        for (int p = 0; p < 4; p++) {
            run.bytes(Rows.counting(30 * p + 1, 32));
            run.sample(p, p, 9);
        }
        return run;
    }

    private void encodeByEach() {
        for (int d = 1; d <= 12; d++) {
            for (int p = 0; p < 4; p++) {
                Run run = mixed("promise 23, d " + d);
                run.feed(1, 2, 3, 4, 5);
                due.is("promise 23: encode(" + p + ", " + d + ")", run.encode(p, d), 32 * d);
                due.is("promise 23: OUT", run.length(4), 32 * d);
                due.is("promise 23: the TAPE stays", run.length(5), 20);
                run.lookAtAll();
            }
        }
    }

    private void encodeFirstBits() {
        Run run = new Run(due, "promise 23, order");
        run.put(0, 0, 0xABC);
        run.put(0, 1, 0x123);
        run.put(0, 255, 0xD00);
        run.encode(0, 12);
        due.is("promise 23: the lowest eight BITS", run.at(4, 0), 0xBC);
        due.is("promise 23: four of each NUMBER", run.at(4, 1), 0x3A);
        due.is("promise 23: the highest eight BITS", run.at(4, 2), 0x12);
        due.is("promise 23: the last BYTE", run.at(4, 383), 0xD0);
        run.encode(0, 1);
        due.is("promise 23: the lowest BIT of each", run.at(4, 0), 2);
        run.encode(0, 5);
        due.is("promise 23: five of 0xABC, three of 0x123", run.at(4, 0), 0x1C | 3 << 5);
        run.lookAtAll();
    }

    private void encodeRefused() {
        Run run = mixed("promise 23, refused");
        run.encode(1, 7);
        for (int bad : new int[] {-1, 4, LOW, HIGH}) {
            due.is("promise 23: encode(" + bad + ", 5)", run.encode(bad, 5), -1);
        }
        for (int bad : new int[] {0, 13, 32, -1, LOW, HIGH}) {
            due.is("promise 23: encode(0, " + bad + ")", run.encode(0, bad), -1);
        }
        due.is("promise 23: OUT stays", run.length(4), 224);
        run.lookAtAll();
    }

    private void decodeByEach() {
        for (int d = 1; d <= 12; d++) {
            for (int p = 0; p < 4; p++) {
                Run run = mixed("promise 24, d " + d);
                run.bytes(Fips.shake256(32 * d, Rows.counting(p, d)));
                due.is("promise 24: decode(" + p + ", " + d + ")", run.decode(p, d), 256);
                due.is("promise 24: the TAPE is empty", run.length(5), 0);
                run.lookAtAll();
            }
        }
    }

    private void decodeAllOnes() {
        for (int d = 1; d <= 12; d++) {
            Run run = new Run(due, "promise 24, ones, d " + d);
            for (int i = 0; i < 32 * d; i += 20) {
                run.feed(-1, -1, -1, -1, -1);
            }
            run.end(32 * d);
            run.decode(0, d);
            int want = d == 12 ? 4095 - 3329 : (1 << d) - 1;
            due.is("promise 24: the first of all ones", run.number(0, 0), want);
            due.is("promise 24: the last of all ones", run.number(0, 255), want);
            run.lookAtAll();
        }
    }

    private void decodeOtherLengths() {
        for (int d = 1; d <= 12; d++) {
            Run run = mixed("promise 24, lengths, d " + d);
            for (int length : new int[] {0, 32 * d - 1, 32 * d + 1, 32 * d + 32}) {
                run.bytes(Rows.mixed(length));
                due.is("promise 24: decode() of " + length, run.decode(0, d), -1);
                due.is("promise 24: the TAPE is empty", run.length(5), 0);
            }
            run.lookAtAll();
        }
    }

    private void decodeRefused() {
        Run run = mixed("promise 24, refused");
        run.bytes(Rows.mixed(64));
        for (int bad : new int[] {-1, 4, LOW, HIGH}) {
            due.is("promise 24: decode(" + bad + ", 2)", run.decode(bad, 2), -1);
            due.is("promise 24: decode(" + bad + ", 3)", run.decode(bad, 3), -1);
        }
        for (int bad : new int[] {0, 13, -1, LOW, HIGH}) {
            due.is("promise 24: decode(0, " + bad + ")", run.decode(0, bad), -1);
        }
        due.is("promise 24: the TAPE stays", run.length(5), 64);
        run.lookAtAll();
        due.is("promise 24: and serves", run.decode(0, 2), 256);
        run.lookAtAll();
    }

    private void thereAndBack() {
        Run run = mixed("promises 23 and 24");
        run.encode(0, 12);
        run.take(4);
        run.decode(1, 12);
        for (int i = 0; i < 256; i += 3) {
            due.is("promises 23 and 24: NUMBER " + i, run.number(1, i), run.number(0, i));
        }
    }
}
