/**
 * What stands behind all promises: a call that tells NONE, -2 or -3 changes nothing but the TAPE,
 * which is empty behind each call that takes it.
 */
public final class RefusedEdgesTest {
    private static final int LOW = Edges.LOW;
    private static final int HIGH = Edges.HIGH;
    private static final int EK = 0;
    private static final int DK = 1;
    private static final int TEXT = 2;
    private static final int OUT = 4;
    private static final int TAPE = Picture.TAPE;

    private final Edges edges = new Edges("RefusedEdgesTest");
    private Run run;

    public static void main(String[] args) {
        RefusedEdgesTest test = new RefusedEdgesTest();
        for (int k = 2; k <= 4; k++) {
            test.refusedOneBehindTheOther(k);
            test.takenAndRefused(k);
            test.takenAndDone(k);
            test.notTaken(k);
        }
        test.refusedOfANewObject();
        test.edges.finish();
    }

    private void sentence() {
        edges.sentence("Terms",
                "A call that tells NONE, -2 or -3 changes nothing but the TAPE, which is empty behind each call that takes it.");
    }

    private void refusedOneBehindTheOther(int k) {
        sentence();
        run = edges.full(k);
        run.bound(160);
        Picture before = run.picture();
        for (int bad : new int[] {-1, 6, LOW, HIGH}) {
            refuse(bad);
        }
        edges.is("what they changed", run.picture().changeSince(before), "nothing");
    }

    private void refusedOfANewObject() {
        sentence();
        run = edges.fresh();
        Picture before = run.picture();
        for (int bad : new int[] {-1, 6, LOW, HIGH}) {
            refuse(bad);
        }
        edges.is(run.make(), -1);
        edges.is(run.wrap(), -1);
        edges.is(run.unwrap(), -1);
        for (int what = 0; what <= 2; what++) {
            edges.is(run.load(what), -1);
        }
        edges.is(run.decode(0, 1), -1);
        edges.is(run.sample(0, 0, 0), -1);
        edges.is(run.noise(0, 2, 0), -1);
        edges.is("what they changed", run.picture().changeSince(before), "nothing");
    }

    /** Each call that can be refused with the TAPE left; bad is none of any argument's values. */
    private void refuse(int bad) {
        edges.is(run.end(bad == 6 ? 34 : bad), -1);
        edges.is(run.take(bad), -1);
        edges.is(run.alter(bad == 6 ? 33 : bad, 9), 0);
        edges.is(run.choose(bad), -1);
        edges.is(run.bound(bad == 6 ? 281 : bad), -1);
        edges.is(run.length(bad), -1);
        edges.is(run.at(bad, 0), -1);
        edges.is(run.at(TAPE, bad == 6 ? 33 : bad), -1);
        edges.is(run.load(bad), -1);
        edges.is(run.hash(bad, 32), -1);
        edges.is(run.hash(3, bad == 6 ? 1001 : bad), -1);
        edges.is(run.put(bad, 0, 9), -1);
        edges.is(run.put(0, bad == 6 ? 256 : bad, 9), -1);
        edges.is(run.number(bad, 0), -1);
        edges.is(run.number(0, bad == 6 ? 256 : bad), -1);
        edges.is(run.forward(bad), 0);
        edges.is(run.back(bad), 0);
        edges.is(run.pairs(bad, 1, 2), 0);
        edges.is(run.pairs(1, bad, 2), 0);
        edges.is(run.pairs(1, 2, bad), 0);
        edges.is(run.add(bad, 1, 1), 0);
        edges.is(run.add(1, bad, -1), 0);
        edges.is(run.add(1, 2, bad == -1 ? 0 : bad), 0);
        edges.is(run.press(bad, 4), 0);
        edges.is(run.press(1, bad == 6 ? 12 : bad), 0);
        edges.is(run.stretch(bad, 4), 0);
        edges.is(run.stretch(1, bad == 6 ? 12 : bad), 0);
        edges.is(run.encode(bad, 4), -1);
        edges.is(run.encode(1, bad == 6 ? 13 : bad), -1);
        edges.is(run.decode(bad, 4), -1);
        edges.is(run.decode(1, bad == 6 ? 13 : bad), -1);
        edges.is(run.sample(bad, 0, 0), -1);
        edges.is(run.noise(bad, 2, 0), -1);
        edges.is(run.noise(1, bad, 0), -1);
    }

    /** The calls that take the TAPE and are refused by what it holds. */
    private void takenAndRefused(int k) {
        sentence();
        run = edges.full(k);
        // Behind each LONG of a key some samples have been drawn already.
        run.bound(155);
        tapeOf(64);
        edges.leavesAllButTape(-2, run::make);
        tapeOf(32);
        edges.leavesAllButTape(-2, run::wrap);
        edges.tape(Rows.eightTimes(2));
        edges.leavesAllButTape(-2, () -> run.sample(3, 0, 0));
        run.take(EK);
        run.alter(0, 255);
        run.alter(1, 255);
        edges.leavesAllButTape(-2, () -> run.load(EK));
        run.take(DK);
        run.alter(384 * k, run.at(TAPE, 384 * k) ^ 1);
        edges.leavesAllButTape(-3, () -> run.load(DK));
        run.take(TEXT);
        run.feed(0, 0, 0, 0, 0);
        edges.leavesAllButTape(-1, () -> run.load(TEXT));
        tapeOf(33);
        edges.leavesAll(-2, run::unwrap);
        edges.leavesAllButTape(-1, run::make);
        edges.leavesAllButTape(-1, run::wrap);
        tapeOf(33);
        edges.leavesAllButTape(-1, () -> run.decode(0, 1));
        tapeOf(33);
        edges.leavesAllButTape(-1, () -> run.sample(0, 0, 0));
        tapeOf(33);
        edges.leavesAllButTape(-1, () -> run.noise(0, 3, 0));
    }

    private void takenAndDone(int k) {
        sentence();
        run = edges.full(k);
        tapeOf(64);
        taken(run.make(), 384 * k + 32);
        tapeOf(32);
        taken(run.wrap(), k == 2 ? 768 : k == 3 ? 1088 : 1568);
        for (int what = EK; what <= TEXT; what++) {
            int length = run.take(what);
            taken(run.load(what), length);
        }
        for (int what = 0; what <= 3; what++) {
            tapeOf(33);
            taken(run.hash(what, 9), what == 0 ? 32 : what == 1 ? 64 : 9);
        }
        tapeOf(32);
        taken(run.decode(0, 1), 256);
        edges.tape(Rows.eightTimes(2));
        taken(run.sample(0, 0, 0), 160);
        tapeOf(32);
        taken(run.noise(0, 2, 0), 256);
    }

    /** The calls that have nothing to do with the TAPE, done and with an answer. */
    private void notTaken(int k) {
        sentence();
        run = edges.full(k);
        run.unwrap();
        run.put(0, 0, 1);
        run.number(0, 0);
        run.forward(0);
        run.back(0);
        run.pairs(0, 1, 2);
        run.add(0, 1, 1);
        run.press(0, 4);
        run.stretch(0, 4);
        run.encode(0, 12);
        run.length(OUT);
        run.at(OUT, 0);
        run.bound(150);
        run.choose(3);
        edges.rowIs(TAPE, Rows.mixed(33));
    }

    private void tapeOf(int length) {
        edges.tape(Rows.mixed(length));
    }

    private void taken(int got, int want) {
        edges.is(got, want);
        edges.is(run.length(TAPE), 0);
        edges.is(run.at(TAPE, 0), -1);
    }
}
