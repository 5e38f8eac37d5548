import java.util.Arrays;
import java.util.HexFormat;
import java.util.function.IntSupplier;

/**
 * For tests that go through the document by its sentences: each run of calls stands under the
 * sentence that it tests, and a wrong answer is told with it.
 */
final class Edges {
    static final int LOW = Integer.MIN_VALUE;
    static final int HIGH = Integer.MAX_VALUE;
    static final int[] NO_POLYNOMIALS = {-1, 4, LOW, HIGH};

    private final Due due;
    private String sentence = "";
    private Run run;

    Edges(String test) {
        due = new Due(test);
    }

    void finish() {
        due.finish();
    }

    /** From here on, what is tested is this sentence of the document. */
    void sentence(String where, String words) {
        sentence = where + ", '" + words + "'";
    }

    /** A new object. */
    Run fresh() {
        run = new Run(due, sentence);
        return run;
    }

    /** One of the SET of k with BYTES in each row, the TAPE too, and NUMBERS in each POLYNOMIAL. */
    Run full(int k) {
        withText(k);
        for (int p = 0; p < 4; p++) {
            run.bytes(Rows.counting(50 * p, 32));
            run.sample(p, p, 3);
        }
        run.bytes(Rows.mixed(50));
        run.hash(2, 77);
        run.bytes(Rows.mixed(33));
        return run;
    }

    Run withText(int k) {
        withKeys(k);
        run.bytes(Rows.counting(64, 32));
        run.wrap();
        return run;
    }

    Run withKeys(int k) {
        fresh();
        run.choose(k);
        run.bytes(Rows.counting(0, 64));
        run.make();
        return run;
    }

    /** The TAPE has just these BYTES, whatever it had. */
    void tape(byte[] row) {
        run.end(0);
        run.bytes(row);
    }

    /** What the last call told. */
    void is(int got, int want) {
        due.is(sentence + ": " + run.lastCall(), got, want);
    }

    void is(String what, long got, long want) {
        due.is(sentence + ": " + what, got, want);
    }

    void is(String what, String got, String want) {
        due.is(sentence + ": " + what, got, want);
    }

    /** The call tells this and changes nothing at all. */
    void leavesAll(int answer, IntSupplier call) {
        changesOnly(answer, call);
    }

    /** The call tells this and takes the TAPE, but changes nothing else. */
    void leavesAllButTape(int answer, IntSupplier call) {
        changesOnly(answer, call, Picture.TAPE);
        rowIsEmpty(Picture.TAPE);
    }

    /** The call tells this and changes none but these parts of the picture. */
    void changesOnly(int answer, IntSupplier call, int... parts) {
        Picture before = run.picture();
        is(call.getAsInt(), answer);
        is("what else " + run.lastCall() + " changed", run.picture().changeSince(before, parts), "nothing");
    }

    void rowIs(int what, byte[] want) {
        byte[] got = run.picture().bytes(what);
        is("row " + what + " behind " + run.lastCall(), HexFormat.of().formatHex(got), HexFormat.of().formatHex(want));
    }

    void rowIsEmpty(int what) {
        rowIs(what, new byte[0]);
    }

    void polynomialIs(int p, int[] want) {
        int[] got = run.picture().polynomial(p);
        is("POLYNOMIAL " + p + " behind " + run.lastCall(), Arrays.toString(got), Arrays.toString(want));
    }
}
