/** Promises 1 to 9: a new object, feed, end, take, alter, choose, bound, length, at. */
public final class RowsTest {
    private static final int LOW = Integer.MIN_VALUE;
    private static final int HIGH = Integer.MAX_VALUE;

    private final Due due = new Due("RowsTest");

    public static void main(String[] args) {
        RowsTest test = new RowsTest();
        test.newObject();
        test.newObjectsSetAndBound();
        test.feedTellsHighestFirst();
        test.feedStopsAt4000();
        test.feedBehindOtherLengths();
        test.end();
        test.take();
        test.takeOfEmptyRows();
        test.alter();
        test.chooseTellsLengths();
        test.chooseEmptiesKeysAlone();
        test.chooseAnotherK();
        test.bound();
        test.boundOfKeys();
        test.lengthAndAt();
        test.due.finish();
    }

    /** A vault with something in every row. */
    private Run full(String name, int k) {
        Run run = new Run(due, name);
        run.choose(k);
        run.bytes(Rows.counting(0, 64));
        run.make();
        run.bytes(Rows.counting(64, 32));
        run.wrap();
        run.bytes(Rows.mixed(50));
        run.hash(2, 77);
        run.bytes(Rows.mixed(33));
        run.put(0, 0, 5);
        run.put(3, 255, 7);
        return run;
    }

    private void newObject() {
        Run run = new Run(due, "promise 1");
        for (int what = 0; what <= 5; what++) {
            due.is("promise 1: a new row's length", run.length(what), 0);
            due.is("promise 1: a new row's first BYTE", run.at(what, 0), -1);
        }
        for (int p = 0; p < 4; p++) {
            for (int i = 0; i < 256; i += 3) {
                due.is("promise 1: a new NUMBER", run.number(p, i), 0);
            }
        }
        run.lookAtAll();
    }

    private void newObjectsSetAndBound() {
        Run run = new Run(due, "promise 1, set and bound");
        run.bytes(Rows.counting(0, 64));
        due.is("promise 1: make() of a new object", run.make(), 1184);
        // The longest sample that a search of a million rows found.
        run.bytes(Rows.eightTimes(830271));
        due.is("promise 1: sample() of a new object", run.sample(0, 0, 0), 181);
    }

    private void feedTellsHighestFirst() {
        Run run = new Run(due, "promise 2");
        due.is("promise 2: feed()", run.feed(0x01020304, -1, LOW, HIGH, 0xFEDCBA98), 20);
        int[] wants = {1, 2, 3, 4, 255, 255, 255, 255, 128, 0, 0, 0, 127, 255, 255, 255, 254, 220, 186, 152};
        for (int i = 0; i < 20; i++) {
            due.is("promise 2: BYTE " + i, run.at(5, i), wants[i]);
        }
        due.is("promise 2: feed() again", run.feed(5, 6, 7, 8, 9), 40);
        due.is("promise 2: what was there", run.at(5, 0), 1);
        due.is("promise 2: what came behind", run.at(5, 23), 5);
        due.is("promise 2: the end", run.at(5, 40), -1);
    }

    private void feedStopsAt4000() {
        Run run = new Run(due, "promise 2, full");
        for (int i = 1; i <= 200; i++) {
            due.is("promise 2: feed() number " + i, run.feed(i, -i, i * i, 7, LOW + i), 20 * i);
        }
        due.is("promise 2: feed() beyond 4000", run.feed(1, 2, 3, 4, 5), -1);
        due.is("promise 2: the length stays", run.length(5), 4000);
        due.is("promise 2: the last BYTE stays", run.at(5, 3999), 200);
        run.lookAtAll();
    }

    private void feedBehindOtherLengths() {
        Run run = new Run(due, "promise 2, ragged");
        for (int i = 1; i <= 200; i++) {
            run.feed(i, i, i, i, i);
        }
        run.end(3981);
        due.is("promise 2: one BYTE too many", run.feed(1, 2, 3, 4, 5), -1);
        due.is("promise 2: nothing came", run.length(5), 3981);
        run.end(3980);
        due.is("promise 2: just as many as go in", run.feed(1, 2, 3, 4, 5), 4000);
        run.end(7);
        due.is("promise 2: behind seven", run.feed(0x0A0B0C0D, 2, 3, 4, 5), 27);
        due.is("promise 2: the first behind seven", run.at(5, 7), 10);
        run.lookAtAll();
    }

    private void end() {
        Run run = new Run(due, "promise 3");
        due.is("promise 3: end(0) of nothing", run.end(0), 0);
        due.is("promise 3: end(1) of nothing", run.end(1), -1);
        run.feed(1, 2, 3, 4, 5);
        for (int n : new int[] {-1, 21, LOW, HIGH}) {
            due.is("promise 3: end(" + n + ")", run.end(n), -1);
            due.is("promise 3: the TAPE stays", run.length(5), 20);
        }
        due.is("promise 3: end(20)", run.end(20), 20);
        due.is("promise 3: end(13)", run.end(13), 13);
        due.is("promise 3: its last BYTE", run.at(5, 12), 0);
        due.is("promise 3: no BYTE behind", run.at(5, 13), -1);
        due.is("promise 3: what went is gone", run.end(14), -1);
        run.feed(-1, -1, -1, -1, -1);
        due.is("promise 3: new BYTES stand where it ended", run.at(5, 13), 255);
        run.lookAtAll();
        due.is("promise 3: end(0)", run.end(0), 0);
        due.is("promise 3: nothing is left", run.length(5), 0);
    }

    private void take() {
        int[] lengths = {1184, 2400, 1088, 32, 77};
        for (int what = 0; what <= 4; what++) {
            Run run = full("promise 4, " + what, 3);
            due.is("promise 4: take(" + what + ")", run.take(what), lengths[what]);
            due.is("promise 4: the TAPE", run.length(5), lengths[what]);
            run.lookAtAll();
            run.alter(0, run.at(5, 0) + 1);
            due.is("promise 4: the row itself stays", run.at(what, 0) != run.at(5, 0), true);
        }
        Run run = full("promise 4, none", 2);
        for (int what : new int[] {-1, 5, 6, LOW, HIGH}) {
            due.is("promise 4: take(" + what + ")", run.take(what), -1);
            due.is("promise 4: the TAPE stays", run.length(5), 33);
        }
        run.lookAtAll();
    }

    private void takeOfEmptyRows() {
        for (int what = 0; what <= 4; what++) {
            Run run = new Run(due, "promise 4, empty " + what);
            run.feed(1, 2, 3, 4, 5);
            due.is("promise 4: take of an empty row", run.take(what), 0);
            due.is("promise 4: the TAPE is empty, too", run.length(5), 0);
        }
    }

    private void alter() {
        Run run = new Run(due, "promise 5");
        due.is("promise 5: nothing to alter", run.alter(0, 1), 0);
        run.feed(-1, -1, -1, -1, -1);
        run.end(18);
        int[] values = {0, 1, 255, 256, 0x1FE, -1, -256, LOW, HIGH, 0x12345678};
        int[] wants = {0, 1, 255, 0, 254, 255, 0, 0, 255, 0x78};
        for (int n = 0; n < values.length; n++) {
            due.is("promise 5: alter(5, " + values[n] + ")", run.alter(5, values[n]), 1);
            due.is("promise 5: the BYTE", run.at(5, 5), wants[n]);
            due.is("promise 5: the one before", run.at(5, 4), 255);
            due.is("promise 5: the one behind", run.at(5, 6), 255);
        }
        due.is("promise 5: the first", run.alter(0, 9), 1);
        due.is("promise 5: the last", run.alter(17, 8), 1);
        for (int i : new int[] {-1, 18, 19, 4000, LOW, HIGH}) {
            due.is("promise 5: alter(" + i + ", 0)", run.alter(i, 0), 0);
        }
        due.is("promise 5: the length", run.length(5), 18);
        run.lookAtAll();
    }

    private void chooseTellsLengths() {
        int[] lengths = {800, 1184, 1568};
        for (int k = 2; k <= 4; k++) {
            Run run = new Run(due, "promise 6, " + k);
            due.is("promise 6: choose(" + k + ")", run.choose(k), lengths[k - 2]);
            run.bytes(Rows.mixed(64));
            due.is("promise 6: make() in that SET", run.make(), lengths[k - 2]);
        }
    }

    private void chooseEmptiesKeysAlone() {
        for (int k = 2; k <= 4; k++) {
            Run run = full("promise 6, over keys, " + k, 3);
            run.bound(150);
            run.choose(k);
            for (int what = 0; what <= 3; what++) {
                due.is("promise 6: row " + what + " is empty", run.length(what), 0);
            }
            due.is("promise 6: OUT stays", run.length(4), 77);
            due.is("promise 6: the TAPE stays", run.length(5), 33);
            run.lookAtAll();
            run.end(0);
            run.bytes(Rows.eightTimes(830271));
            due.is("promise 6: BOUND stays", run.sample(0, 0, 0), -2);
        }
    }

    private void chooseAnotherK() {
        Run run = full("promise 6, another k", 4);
        for (int k : new int[] {0, 1, 5, -2, 512, 768, LOW, HIGH}) {
            due.is("promise 6: choose(" + k + ")", run.choose(k), -1);
        }
        due.is("promise 6: EK stays", run.length(0), 1568);
        due.is("promise 6: the SET stays", run.unwrap(), 1);
        run.lookAtAll();
    }

    private void bound() {
        Run run = new Run(due, "promise 7");
        for (int n : new int[] {0, 281, -1, LOW, HIGH}) {
            due.is("promise 7: bound(" + n + ")", run.bound(n), -1);
        }
        due.is("promise 7: bound(280)", run.bound(280), 280);
        due.is("promise 7: bound(1)", run.bound(1), 1);
        run.bytes(Rows.eightTimes(830271));
        due.is("promise 7: a sample in one ROUND", run.sample(0, 0, 0), -2);
        due.is("promise 7: bound(180)", run.bound(180), 180);
        run.bytes(Rows.eightTimes(830271));
        due.is("promise 7: one ROUND too few", run.sample(0, 0, 0), -2);
        due.is("promise 7: bound(181)", run.bound(181), 181);
        due.is("promise 7: another bound changes nothing", run.bound(0), -1);
        due.is("promise 7: another bound changes nothing", run.bound(281), -1);
        run.bytes(Rows.eightTimes(830271));
        due.is("promise 7: just enough", run.sample(0, 0, 0), 181);
    }

    private void boundOfKeys() {
        for (int k = 2; k <= 4; k++) {
            int longest = Fips.longest(k, Fips.rhoOf(k, Rows.counting(0, 32)));
            Run run = full("promise 7, keys, " + k, k);
            run.end(0);
            run.bound(longest - 1);
            due.is("promise 7: unwrap(), one ROUND too few", run.unwrap(), -2);
            run.bytes(Rows.counting(1, 32));
            due.is("promise 7: wrap(), one ROUND too few", run.wrap(), -2);
            run.bytes(Rows.counting(0, 64));
            due.is("promise 7: make(), one ROUND too few", run.make(), -2);
            run.lookAtAll();
            run.bound(longest);
            due.is("promise 7: unwrap(), just enough", run.unwrap(), 1);
            run.bytes(Rows.counting(1, 32));
            due.is("promise 7: wrap(), just enough", run.wrap(), Fips.textLength(k));
            run.bytes(Rows.counting(0, 64));
            due.is("promise 7: make(), just enough", run.make(), Fips.ekLength(k));
        }
    }

    private void lengthAndAt() {
        int[][] lengths = {{800, 1632, 768, 32, 77, 33}, {1184, 2400, 1088, 32, 77, 33}, {1568, 3168, 1568, 32, 77, 33}};
        for (int k = 2; k <= 4; k++) {
            Run run = full("promises 8 and 9, " + k, k);
            for (int what = 0; what <= 5; what++) {
                int length = lengths[k - 2][what];
                due.is("promise 8: length(" + what + ")", run.length(what), length);
                due.is("promise 9: the last BYTE", run.at(what, length - 1) >= 0, true);
                for (int i : new int[] {-1, length, length + 1, LOW, HIGH}) {
                    due.is("promise 9: at(" + what + ", " + i + ")", run.at(what, i), -1);
                }
            }
            for (int what : new int[] {-1, 6, 7, LOW, HIGH}) {
                due.is("promise 8: length(" + what + ")", run.length(what), -1);
                due.is("promise 9: at(" + what + ", 0)", run.at(what, 0), -1);
            }
            run.lookAtAll();
        }
    }
}
