import java.util.Arrays;
import java.util.function.ToIntFunction;

/** All that can be seen of a vault at one time, and, by what it does, its SET and its BOUND. */
final class Picture {
    /** The parts of a picture: six rows, then four POLYNOMIALS. */
    static final int TAPE = 5;
    static final int POLYNOMIAL = 6;
    private static final String[] NAMES = {"EK", "DK", "TEXT", "SECRET", "OUT", "TAPE"};

    /** Asks the vault by so many calls. */
    interface Asker {
        int ask(int cost, ToIntFunction<LatticeVault> ask);
    }

    private final int[][] rows = new int[6][];
    private final int[][] polynomials = new int[4][256];
    private final int bound;
    private final int ekLength;

    Picture(Asker asker) {
        for (int w = 0; w < 6; w++) {
            int what = w;
            rows[what] = new int[Math.max(asker.ask(1, v -> v.length(what)), 0)];
            for (int n = 0; n < rows[what].length; n++) {
                int i = n;
                rows[what][i] = asker.ask(1, v -> v.at(what, i));
            }
        }
        for (int n = 0; n < 4 * 256; n++) {
            int p = n / 256;
            int i = n % 256;
            polynomials[p][i] = asker.ask(1, v -> v.number(p, i));
        }
        // From here on the asks change what the ones before have read.
        bound = askBound(asker);
        ekLength = asker.ask(8, Picture::ekLengthOf);
    }

    /** The most ROUNDS, of those that a sample is known for, that are not LONG; 0 if all are. */
    private static int askBound(Asker asker) {
        int low = 0;
        int high = Rows.knownRounds();
        while (low < high) {
            int middle = (low + high) / 2;
            if (asker.ask(5, v -> sampled(v, Rows.knownSeed(middle))) == -2) {
                high = middle;
            } else {
                low = middle + 1;
            }
        }
        return low == 0 ? 0 : Rows.roundsOf(low - 1);
    }

    private static int sampled(LatticeVault vault, int number) {
        vault.end(0);
        vault.feed(number, number, number, number, number);
        vault.feed(number, number, number, number, number);
        vault.end(32);
        return vault.sample(0, 0, 0);
    }

    private static int ekLengthOf(LatticeVault vault) {
        vault.end(0);
        for (int i = 0; i < 4; i++) {
            vault.feed(1, 2, 3, 4, 5);
        }
        vault.end(64);
        vault.bound(280);
        return vault.make();
    }

    byte[] bytes(int what) {
        byte[] bytes = new byte[rows[what].length];
        for (int i = 0; i < bytes.length; i++) {
            if (rows[what][i] < 0 || rows[what][i] > 255) {
                throw new IllegalStateException("BYTE " + i + " of " + NAMES[what] + " is " + rows[what][i]);
            }
            bytes[i] = (byte) rows[what][i];
        }
        return bytes;
    }

    int[] polynomial(int p) {
        return polynomials[p];
    }

    int bound() {
        return bound;
    }

    /** What is not as it was, but for the parts that may change; "nothing" if all is. */
    String changeSince(Picture before, int... mayChange) {
        StringBuilder changes = new StringBuilder();
        for (int what = 0; what < 6; what++) {
            if (!isOneOf(what, mayChange) && !Arrays.equals(rows[what], before.rows[what])) {
                changes.append(NAMES[what]).append(' ');
            }
        }
        for (int p = 0; p < 4; p++) {
            if (!isOneOf(POLYNOMIAL + p, mayChange) && !Arrays.equals(polynomials[p], before.polynomials[p])) {
                changes.append("POLYNOMIAL ").append(p).append(' ');
            }
        }
        if (bound != before.bound) {
            changes.append("BOUND ");
        }
        if (ekLength != before.ekLength) {
            changes.append("SET ");
        }
        return changes.isEmpty() ? "nothing" : changes.toString().trim();
    }

    private static boolean isOneOf(int part, int[] parts) {
        return Arrays.stream(parts).anyMatch(each -> each == part);
    }
}
