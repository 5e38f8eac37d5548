import java.util.ArrayList;
import java.util.HexFormat;
import java.util.List;
import java.util.function.ToIntFunction;

/**
 * One object under test and the model beside it: each call goes to both, and their answers must be
 * the same. Keeps to the 512 calls that the document promises for an object.
 */
final class Run {
    private static final int MOST_CALLS = 512;

    private final Due due;
    private final String name;
    private final LatticeVault vault = new LatticeVault();
    private final Model model = new Model();
    private final List<ToIntFunction<LatticeVault>> calls = new ArrayList<>();
    private String lastCall = "new";
    private Picture picture;
    private int pictureBehind;

    Run(Due due, String name) {
        this.due = due;
        this.name = name;
    }

    int callsLeft() {
        return MOST_CALLS - calls.size();
    }

    String lastCall() {
        return lastCall;
    }

    private int both(String call, ToIntFunction<LatticeVault> ask, int want) {
        calls.add(ask);
        if (calls.size() > MOST_CALLS) {
            throw new IllegalStateException(name + ": more calls than are promised");
        }
        int got = ask.applyAsInt(vault);
        lastCall = call;
        due.is(name + ", call " + calls.size() + ": " + call, got, want);
        return got;
    }

    private static String show(String method, int... arguments) {
        StringBuilder text = new StringBuilder(method).append('(');
        for (int i = 0; i < arguments.length; i++) {
            text.append(i == 0 ? "" : ", ").append(arguments[i]);
        }
        return text.append(')').toString();
    }

    // ---- what tests need again and again

    /** The TAPE, empty before, has just these BYTES. */
    void bytes(byte[] row) {
        for (int i = 0; i < row.length; i += 20) {
            feed(word(row, i), word(row, i + 4), word(row, i + 8), word(row, i + 12), word(row, i + 16));
        }
        end(row.length);
    }

    private static int word(byte[] row, int start) {
        int word = 0;
        for (int i = start; i < start + 4; i++) {
            word = word << 8 | (i < row.length ? row[i] & 255 : 0);
        }
        return word;
    }

    /** The BYTES of a short row, as two digits each. */
    String hex(int what) {
        byte[] row = new byte[Math.max(length(what), 0)];
        for (int i = 0; i < row.length; i++) {
            row[i] = (byte) at(what, i);
        }
        return HexFormat.of().formatHex(row);
    }

    /** SHA3-256 of a row; the TAPE and OUT are gone with it. */
    String digest(int what) {
        take(what);
        hash(0, 0);
        return hex(4);
    }

    /** Every place that can be looked at is as the model has it. */
    void lookAtAll() {
        Looker looker = new Looker();
        for (int w = 0; w <= 5; w++) {
            int what = w;
            look(looker, show("length", what), v -> v.length(what), model.length(what));
            for (int n = 0; n <= model.length(what); n++) {
                int i = n;
                look(looker, show("at", what, i), v -> v.at(what, i), model.at(what, i));
            }
        }
        for (int n = 0; n < 4 * 256; n++) {
            int p = n / 256;
            int i = n % 256;
            look(looker, show("number", p, i), v -> v.number(p, i), model.number(p, i));
        }
    }

    private void look(Looker looker, String call, ToIntFunction<LatticeVault> ask, int want) {
        due.is(name + ", behind call " + calls.size() + ": " + call, looker.ask(1, ask), want);
    }

    /** What can be seen now, asked of the class alone. */
    Picture picture() {
        if (picture == null || pictureBehind != calls.size()) {
            picture = new Picture(new Looker()::ask);
            pictureBehind = calls.size();
        }
        return picture;
    }

    /**
     * Asks the object as it is now. New objects do all the calls again, so that the many looks stay
     * within what is promised for one object.
     */
    private final class Looker {
        private LatticeVault again;
        private int left;

        /** Of an ask that changes the object, those behind it may see what it did. */
        int ask(int cost, ToIntFunction<LatticeVault> ask) {
            if (cost > left) {
                again = new LatticeVault();
                for (ToIntFunction<LatticeVault> call : calls) {
                    call.applyAsInt(again);
                }
                left = callsLeft();
            }
            if (cost > left) {
                throw new IllegalStateException(name + ": no call is left to look with");
            }
            left -= cost;
            return ask.applyAsInt(again);
        }
    }

    // ---- the face

    int feed(int a, int b, int c, int d, int e) {
        return both(show("feed", a, b, c, d, e), v -> v.feed(a, b, c, d, e), model.feed(a, b, c, d, e));
    }

    int end(int n) {
        return both(show("end", n), v -> v.end(n), model.end(n));
    }

    int take(int what) {
        return both(show("take", what), v -> v.take(what), model.take(what));
    }

    int alter(int i, int v) {
        return both(show("alter", i, v), x -> x.alter(i, v) ? 1 : 0, model.alter(i, v));
    }

    int choose(int k) {
        return both(show("choose", k), v -> v.choose(k), model.choose(k));
    }

    int bound(int n) {
        return both(show("bound", n), v -> v.bound(n), model.bound(n));
    }

    int length(int what) {
        return both(show("length", what), v -> v.length(what), model.length(what));
    }

    int at(int what, int i) {
        return both(show("at", what, i), v -> v.at(what, i), model.at(what, i));
    }

    int make() {
        return both(show("make"), v -> v.make(), model.make());
    }

    int load(int what) {
        return both(show("load", what), v -> v.load(what), model.load(what));
    }

    int wrap() {
        return both(show("wrap"), v -> v.wrap(), model.wrap());
    }

    int unwrap() {
        return both(show("unwrap"), v -> v.unwrap(), model.unwrap());
    }

    int hash(int what, int n) {
        return both(show("hash", what, n), v -> v.hash(what, n), model.hash(what, n));
    }

    int put(int p, int i, int v) {
        return both(show("put", p, i, v), x -> x.put(p, i, v), model.put(p, i, v));
    }

    int number(int p, int i) {
        return both(show("number", p, i), v -> v.number(p, i), model.number(p, i));
    }

    int forward(int p) {
        return both(show("forward", p), v -> v.forward(p) ? 1 : 0, model.forward(p));
    }

    int back(int p) {
        return both(show("back", p), v -> v.back(p) ? 1 : 0, model.back(p));
    }

    int pairs(int p, int q, int r) {
        return both(show("pairs", p, q, r), v -> v.pairs(p, q, r) ? 1 : 0, model.pairs(p, q, r));
    }

    int add(int p, int q, int sign) {
        return both(show("add", p, q, sign), v -> v.add(p, q, sign) ? 1 : 0, model.add(p, q, sign));
    }

    int press(int p, int d) {
        return both(show("press", p, d), v -> v.press(p, d) ? 1 : 0, model.press(p, d));
    }

    int stretch(int p, int d) {
        return both(show("stretch", p, d), v -> v.stretch(p, d) ? 1 : 0, model.stretch(p, d));
    }

    int encode(int p, int d) {
        return both(show("encode", p, d), v -> v.encode(p, d), model.encode(p, d));
    }

    int decode(int p, int d) {
        return both(show("decode", p, d), v -> v.decode(p, d), model.decode(p, d));
    }

    int sample(int p, int i, int j) {
        return both(show("sample", p, i, j), v -> v.sample(p, i, j), model.sample(p, i, j));
    }

    int noise(int p, int eta, int b) {
        return both(show("noise", p, eta, b), v -> v.noise(p, eta, b), model.noise(p, eta, b));
    }
}
