import java.util.function.IntSupplier;

/** The boundary cases that the sentences of promises 1 to 9 name, one test a sentence. */
public final class RowsEdgesTest {
    private static final int LOW = Edges.LOW;
    private static final int HIGH = Edges.HIGH;
    private static final int[][] LENGTHS = {
        {800, 1632, 768, 32, 77, 33}, {1184, 2400, 1088, 32, 77, 33}, {1568, 3168, 1568, 32, 77, 33}
    };

    private final Edges edges = new Edges("RowsEdgesTest");

    public static void main(String[] args) {
        RowsEdgesTest test = new RowsEdgesTest();
        test.calls512();
        test.newSetAndBound();
        test.newRowsAreEmpty();
        test.newPolynomialsAre0();
        test.feedTwenty();
        test.feedNoneBeyond4000();
        test.endKeepsTheFirst();
        test.endNone();
        test.takeInPlace();
        test.takeEmptyRow();
        test.takeNone();
        test.alterLowestBits();
        test.alterNoneSuch();
        test.chooseEmpties();
        test.chooseNone();
        test.boundFromNowOn();
        test.setAndBoundStay();
        test.boundNone();
        test.lengthOfEach();
        test.lengthNone();
        test.atFirstAndLast();
        test.atNone();
        test.edges.finish();
    }

    private void calls512() {
        edges.sentence("What it is", "An object is used for at most 512 calls after it has been made");
        Run run = edges.withText(4);
        while (run.callsLeft() > 1) {
            run.length(5);
        }
        edges.is(run.unwrap(), 1);
        edges.is("calls left", run.callsLeft(), 0);

        run = edges.fresh();
        for (int i = 1; i <= 511; i++) {
            edges.is(run.feed(i, i, i, i, i), i <= 200 ? 20 * i : -1);
        }
        edges.is(run.end(3999), 3999);
    }

    // ---- promise 1

    private void newSetAndBound() {
        edges.sentence("Promise 1", "The SET of k 3, BOUND 280");
        Run run = edges.fresh();
        edges.tape(Rows.counting(0, 64));
        edges.is(run.make(), 1184);
        edges.is(run.length(1), 2400);
        edges.tape(Rows.eightTimes(830271));
        edges.is(run.sample(0, 0, 0), 181);
        // Of BOUND 280 and one below no sample is known that tells them apart; 181 is the longest.
        edges.is("the most known ROUNDS of a new object", edges.fresh().picture().bound(), 181);
    }

    private void newRowsAreEmpty() {
        edges.sentence("Promise 1", "TAPE, EK, DK, TEXT, SECRET and OUT are empty");
        Run run = edges.fresh();
        for (int what = 0; what <= 5; what++) {
            edges.is(run.length(what), 0);
            edges.is(run.at(what, 0), -1);
        }
        edges.is(run.unwrap(), -1);
        edges.is(run.alter(0, 1), 0);
        edges.is(run.end(1), -1);
    }

    private void newPolynomialsAre0() {
        edges.sentence("Promise 1", "the four POLYNOMIALS are 0.");
        for (int p = 0; p <= 3; p++) {
            Run run = edges.fresh();
            for (int i = 0; i < 256; i++) {
                edges.is(run.number(p, i), 0);
            }
            edges.is(run.number(4, 0), -1);
        }
    }

    // ---- promise 2

    private void feedTwenty() {
        edges.sentence("Promise 2", "Twenty BYTES come behind the TAPE, of each number the highest first: how many it has.");
        for (int had : new int[] {0, 1, 2, 3, 4, 19, 20}) {
            Run run = edges.fresh();
            run.bytes(Rows.counting(100, had));
            edges.is(run.feed(0x00010203, 0x04050607, 0x80FF7FFE, LOW, HIGH), had + 20);
            int[] wants = {0, 1, 2, 3, 4, 5, 6, 7, 128, 255, 127, 254, 128, 0, 0, 0, 127, 255, 255, 255};
            for (int i = 0; i < had; i++) {
                edges.is(run.at(5, i), 100 + i);
            }
            for (int i = 0; i < 20; i++) {
                edges.is(run.at(5, had + i), wants[i]);
            }
            edges.is(run.at(5, had + 20), -1);
        }
    }

    private void feedNoneBeyond4000() {
        edges.sentence("Promise 2", "NONE, and nothing comes, if there would be more than 4000.");
        Run run = edges.fresh();
        run.bytes(Rows.mixed(3980));
        edges.is(run.feed(1, 2, 3, 4, 0x05060708), 4000);
        edges.is(run.at(5, 3999), 8);
        edges.leavesAll(-1, () -> run.feed(1, 2, 3, 4, 5));
        run.end(3981);
        edges.leavesAll(-1, () -> run.feed(1, 2, 3, 4, 5));
        run.end(3980);
        edges.is(run.feed(-1, -1, -1, -1, -1), 4000);
        edges.is(run.at(5, 3980), 255);

        // Behind a DK of k 4 the TAPE is 3168 long, and 12 short of full behind 41 calls.
        Run behindKey = edges.full(4);
        behindKey.bound(160);
        behindKey.take(1);
        for (int i = 1; i <= 41; i++) {
            edges.is(behindKey.feed(i, i, i, i, i), 3168 + 20 * i);
        }
        edges.leavesAll(-1, () -> behindKey.feed(1, 2, 3, 4, 5));
    }

    // ---- promise 3

    private void endKeepsTheFirst() {
        edges.sentence("Promise 3", "The TAPE has its first n BYTES alone: n.");
        for (int n : new int[] {20, 19, 1, 0}) {
            Run run = edges.fresh();
            run.feed(0x01020304, 0x05060708, 0x090A0B0C, 0x0D0E0F10, 0x11121314);
            edges.is(run.end(n), n);
            edges.is(run.length(5), n);
            for (int i = 0; i < n; i++) {
                edges.is(run.at(5, i), i + 1);
            }
            edges.is(run.at(5, n), -1);
        }
        Run run = edges.fresh();
        edges.is(run.end(0), 0);
        run.bytes(Rows.mixed(4000));
        edges.leavesAll(4000, () -> run.end(4000));
        edges.is(run.end(3999), 3999);
        edges.is(run.at(5, 3999), -1);
    }

    private void endNone() {
        edges.sentence("Promise 3", "NONE if it has not so many, or n is below 0 (the TAPE stays).");
        for (int had : new int[] {0, 1, 33, 4000}) {
            Run run = edges.fresh();
            run.bytes(Rows.mixed(had));
            for (int n : new int[] {had + 1, -1, LOW, HIGH}) {
                edges.leavesAll(-1, () -> run.end(n));
            }
        }
        Run run = edges.full(3);
        edges.is(run.end(10), 10);
        // What was cut off is no longer had.
        edges.leavesAll(-1, () -> run.end(11));
    }

    // ---- promise 4

    private void takeInPlace() {
        edges.sentence("Promise 4",
                "The TAPE is what (0 EK, 1 DK, 2 TEXT, 3 SECRET, 4 OUT), in place of what it had: how many BYTES.");
        for (int k = 2; k <= 4; k++) {
            for (int had : new int[] {0, 33, 4000}) {
                Run run = edges.full(k);
                edges.tape(Rows.mixed(had));
                for (int w = 0; w <= 4; w++) {
                    int what = w;
                    edges.changesOnly(LENGTHS[k - 2][what], () -> run.take(what), 5);
                    edges.rowIs(5, run.picture().bytes(what));
                }
            }
        }
    }

    private void takeEmptyRow() {
        edges.sentence("Promise 4", "in place of what it had: how many BYTES.");
        for (int w = 0; w <= 4; w++) {
            int what = w;
            Run run = edges.fresh();
            run.bytes(Rows.mixed(33));
            edges.leavesAllButTape(0, () -> run.take(what));
        }
        Run run = edges.full(2);
        edges.tape(new byte[0]);
        run.hash(3, 0);
        run.bytes(Rows.mixed(33));
        edges.leavesAllButTape(0, () -> run.take(4));
    }

    private void takeNone() {
        edges.sentence("Promise 4", "NONE, and the TAPE stays: another what.");
        Run run = edges.full(3);
        for (int what : new int[] {-1, 5, 6, LOW, HIGH}) {
            edges.leavesAll(-1, () -> run.take(what));
        }
    }

    // ---- promise 5

    private void alterLowestBits() {
        edges.sentence("Promise 5", "BYTE i of the TAPE becomes the lowest eight BITS of v: true");
        int[] values = {0, 255, 256, 257, 511, -1, -255, -256, -257, LOW, HIGH, 0x12345678};
        int[] wants = {0, 255, 0, 1, 255, 255, 1, 0, 255, 0, 255, 0x78};
        for (int i : new int[] {0, 1, 18, 19}) {
            Run run = edges.fresh();
            run.feed(0x55555555, 0x55555555, 0x55555555, 0x55555555, 0x55555555);
            for (int n = 0; n < values.length; n++) {
                edges.is(run.alter(i, values[n]), 1);
                edges.is(run.at(5, i), wants[n]);
                edges.is(run.at(5, i == 0 ? 1 : i - 1), 0x55);
                edges.is(run.at(5, i == 19 ? 18 : i + 1), 0x55);
            }
            edges.is(run.length(5), 20);
        }
    }

    private void alterNoneSuch() {
        edges.sentence("Promise 5", "false if there is none such.");
        for (int had : new int[] {0, 1, 33, 4000}) {
            Run run = edges.fresh();
            run.bytes(Rows.mixed(had));
            if (had > 0) {
                edges.is(run.alter(had - 1, 200), 1);
                edges.is(run.at(5, had - 1), 200);
            }
            for (int i : new int[] {had, had + 1, -1, LOW, HIGH}) {
                edges.leavesAll(0, () -> run.alter(i, 7));
            }
        }
        Run run = edges.full(4);
        run.end(10);
        edges.leavesAll(0, () -> run.alter(10, 7));
    }

    // ---- promise 6

    private void chooseEmpties() {
        edges.sentence("Promise 6", "The SET of k; EK, DK, TEXT, SECRET are empty: how many BYTES an EK has.");
        int[] answers = {800, 1184, 1568};
        for (int from = 2; from <= 4; from++) {
            for (int k = 2; k <= 4; k++) {
                Run run = edges.full(from);
                run.bound(160);
                Picture before = run.picture();
                edges.is(run.choose(k), answers[k - 2]);
                for (int what = 0; what <= 3; what++) {
                    edges.rowIsEmpty(what);
                }
                String due = from == k ? "nothing" : "SET";
                edges.is("what else changed", run.picture().changeSince(before, 0, 1, 2, 3), due);
            }
        }
    }

    private void chooseNone() {
        edges.sentence("Promise 6", "NONE for another k.");
        for (int had = 2; had <= 4; had++) {
            Run run = edges.full(had);
            for (int k : new int[] {1, 5, 0, -1, LOW, HIGH}) {
                edges.leavesAll(-1, () -> run.choose(k));
            }
        }
    }

    // ---- promise 7

    private void boundFromNowOn() {
        edges.sentence("Promise 7", "BOUND from now on: n.");
        for (int n : new int[] {1, 2, 138, 139, 141, 160, 161, 180, 181, 182, 279, 280}) {
            Run run = edges.full(3);
            Picture before = run.picture();
            edges.is(run.bound(n), n);
            int most = n < 139 ? 0 : Math.min(n, 181);
            edges.is("the most known ROUNDS that are not LONG", run.picture().bound(), most);
            String due = most == 181 ? "nothing" : "BOUND";
            edges.is("what " + run.lastCall() + " changed", run.picture().changeSince(before), due);
        }
        Run run = edges.fresh();
        run.bound(1);
        edges.is(run.bound(280), 280);
        edges.is("the most known ROUNDS that are not LONG", run.picture().bound(), 181);
    }

    private void setAndBoundStay() {
        edges.sentence("Promises 6 and 7", "The SET of k; BOUND from now on: n.");
        for (int k = 2; k <= 4; k++) {
            Run run = edges.full(k);
            run.bound(180);
            for (IntSupplier call : allButChooseAndBound(run)) {
                Picture before = run.picture();
                edges.is(call.getAsInt() < 0 ? 1 : 0, 0);
                String changed = run.picture().changeSince(before, 0, 1, 2, 3, 4, 5, 6, 7, 8, 9);
                edges.is("what " + run.lastCall() + " changed of both", changed, "nothing");
            }
        }
    }

    /** Each with the TAPE that it needs to be done. */
    private IntSupplier[] allButChooseAndBound(Run run) {
        return new IntSupplier[] {
            () -> run.feed(1, 2, 3, 4, 5), () -> run.end(2), () -> run.alter(0, 1), () -> run.length(5), () -> run.at(5, 0),
            run::unwrap, () -> withRow(run, 0).load(0), () -> withRow(run, 1).load(1), () -> withRow(run, 2).load(2),
            () -> withTape(run, 32).wrap(), () -> withTape(run, 64).make(),
            () -> withTape(run, 9).hash(0, 0), () -> withTape(run, 9).hash(1, 0),
            () -> withTape(run, 9).hash(2, 9), () -> withTape(run, 9).hash(3, 9),
            () -> run.put(0, 0, 1), () -> run.number(0, 0), () -> run.forward(0), () -> run.back(0),
            () -> run.pairs(0, 1, 2), () -> run.add(0, 1, 1), () -> run.press(0, 4), () -> run.stretch(0, 4),
            () -> run.encode(0, 4), () -> withTape(run, 128).decode(0, 4),
            () -> withTape(run, 32).sample(0, 0, 0), () -> withTape(run, 32).noise(0, 2, 0)
        };
    }

    private Run withTape(Run run, int length) {
        edges.tape(Rows.mixed(length));
        return run;
    }

    private static Run withRow(Run run, int what) {
        run.take(what);
        return run;
    }

    private void boundNone() {
        edges.sentence("Promise 7", "NONE if it is not 1 .. 280.");
        for (int had : new int[] {1, 160, 280}) {
            Run run = edges.full(2);
            run.bound(had);
            for (int n : new int[] {0, 281, -1, -160, LOW, HIGH}) {
                edges.leavesAll(-1, () -> run.bound(n));
            }
        }
    }

    // ---- promises 8 and 9

    private void lengthOfEach() {
        edges.sentence("Promise 8", "How many BYTES what has: 0 EK, 1 DK, 2 TEXT, 3 SECRET, 4 OUT, 5 TAPE.");
        for (int k = 2; k <= 4; k++) {
            Run run = edges.full(k);
            for (int w = 0; w <= 5; w++) {
                int what = w;
                edges.leavesAll(LENGTHS[k - 2][what], () -> run.length(what));
            }
        }
        Run run = edges.fresh();
        run.bytes(Rows.mixed(4000));
        edges.is(run.length(5), 4000);
        run.hash(2, 1000);
        edges.is(run.length(4), 1000);
        run.hash(2, 0);
        edges.is(run.length(4), 0);
    }

    private void lengthNone() {
        edges.sentence("Promise 8", "NONE for another what.");
        Run run = edges.full(3);
        for (int what : new int[] {-1, 6, 7, LOW, HIGH}) {
            edges.leavesAll(-1, () -> run.length(what));
        }
    }

    private void atFirstAndLast() {
        edges.sentence("Promise 9", "BYTE i of what, as in length().");
        byte[][] keys = Fips.keys(3, Rows.counting(0, 32), Rows.counting(32, 32));
        byte[][] wrapped = Fips.wrap(3, keys[0], Rows.counting(64, 32));
        byte[][] rows = {
            keys[0], keys[1], wrapped[1], wrapped[0], Fips.shake128(77, Rows.mixed(50)), Rows.mixed(33)
        };
        Run run = edges.full(3);
        for (int what = 0; what <= 5; what++) {
            int last = rows[what].length - 1;
            edges.is(run.at(what, 0), rows[what][0] & 255);
            edges.is(run.at(what, last), rows[what][last] & 255);
        }
    }

    private void atNone() {
        edges.sentence("Promise 9", "NONE if there is none such.");
        for (int k = 2; k <= 4; k++) {
            Run run = edges.full(k);
            for (int w = 0; w <= 5; w++) {
                int what = w;
                for (int i : new int[] {-1, LENGTHS[k - 2][what], LENGTHS[k - 2][what] + 1, LOW, HIGH}) {
                    edges.leavesAll(-1, () -> run.at(what, i));
                }
            }
            for (int what : new int[] {-1, 6, LOW, HIGH}) {
                edges.leavesAll(-1, () -> run.at(what, 0));
            }
        }
        Run run = edges.full(3);
        run.choose(3);
        // The BYTES of a row that was emptied are gone.
        for (int w = 0; w <= 3; w++) {
            int what = w;
            edges.leavesAll(-1, () -> run.at(what, 0));
        }
        run.end(0);
        edges.leavesAll(-1, () -> run.at(5, 0));
        Run whole = edges.fresh();
        whole.bytes(Rows.mixed(4000));
        edges.is(whole.at(5, 3999), (7 * 3999 + 3) & 255);
        edges.leavesAll(-1, () -> whole.at(5, 4000));
    }
}
