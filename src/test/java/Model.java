import java.util.Arrays;

/** What the document asks of a vault, in the plainest form, over Fips. */
final class Model {
    private byte[] tape = {};
    private byte[] ek = {};
    private byte[] dk = {};
    private byte[] text = {};
    private byte[] secret = {};
    private byte[] out = {};
    private final int[][] f = new int[4][256];
    private int k = 3;
    private int bound = 280;

    private byte[] row(int what) {
        byte[][] rows = {ek, dk, text, secret, out, tape};
        return what >= 0 && what <= 5 ? rows[what] : null;
    }

    private byte[] taken() {
        byte[] row = tape;
        tape = new byte[0];
        return row;
    }

    private static boolean isPolynomial(int p) {
        return p >= 0 && p <= 3;
    }

    int feed(int... five) {
        if (tape.length + 20 > 4000) {
            return -1;
        }
        for (int number : five) {
            for (int shift = 24; shift >= 0; shift -= 8) {
                tape = Fips.join(tape, new byte[] {(byte) (number >> shift)});
            }
        }
        return tape.length;
    }

    int end(int n) {
        if (n < 0 || n > tape.length) {
            return -1;
        }
        tape = Arrays.copyOf(tape, n);
        return n;
    }

    int take(int what) {
        if (what < 0 || what > 4) {
            return -1;
        }
        tape = row(what).clone();
        return tape.length;
    }

    int alter(int i, int v) {
        if (i < 0 || i >= tape.length) {
            return 0;
        }
        tape[i] = (byte) v;
        return 1;
    }

    int choose(int wanted) {
        if (wanted < 2 || wanted > 4) {
            return -1;
        }
        k = wanted;
        ek = new byte[0];
        dk = new byte[0];
        text = new byte[0];
        secret = new byte[0];
        return 384 * k + 32;
    }

    int bound(int n) {
        if (n < 1 || n > 280) {
            return -1;
        }
        bound = n;
        return n;
    }

    int length(int what) {
        return row(what) == null ? -1 : row(what).length;
    }

    int at(int what, int i) {
        byte[] row = row(what);
        return row == null || i < 0 || i >= row.length ? -1 : row[i] & 255;
    }

    int make() {
        byte[] row = taken();
        if (row.length != 64) {
            return -1;
        }
        byte[] d = Fips.part(row, 0, 32);
        if (Fips.longest(k, Fips.rhoOf(k, d)) > bound) {
            return -2;
        }
        byte[][] keys = Fips.keys(k, d, Fips.part(row, 32, 32));
        ek = keys[0];
        dk = keys[1];
        text = new byte[0];
        secret = new byte[0];
        return ek.length;
    }

    int load(int what) {
        if (what < 0 || what > 2) {
            return -1;
        }
        byte[] row = taken();
        if (what == 0) {
            if (row.length != Fips.ekLength(k)) {
                return -1;
            }
            for (int i = 0; i < k; i++) {
                for (int group : Fips.groups(Fips.part(row, 384 * i, 384), 12)) {
                    if (group >= 3329) {
                        return -2;
                    }
                }
            }
            ek = row;
        } else if (what == 1) {
            if (row.length != Fips.dkLength(k)) {
                return -1;
            }
            byte[] h = Fips.sha3256(Fips.part(row, 384 * k, Fips.ekLength(k)));
            if (!Arrays.equals(h, Fips.part(row, 768 * k + 32, 32))) {
                return -3;
            }
            dk = row;
        } else {
            if (row.length != Fips.textLength(k)) {
                return -1;
            }
            text = row;
        }
        return row.length;
    }

    int wrap() {
        byte[] m = taken();
        if (ek.length == 0 || m.length != 32) {
            return -1;
        }
        if (Fips.longest(k, Fips.part(ek, 384 * k, 32)) > bound) {
            return -2;
        }
        byte[][] wrapped = Fips.wrap(k, ek, m);
        secret = wrapped[0];
        text = wrapped[1];
        return text.length;
    }

    int unwrap() {
        if (dk.length == 0 || text.length == 0) {
            return -1;
        }
        if (Fips.longest(k, Fips.part(dk, 768 * k, 32)) > bound) {
            return -2;
        }
        byte[][] unwrapped = Fips.unwrap(k, dk, text);
        secret = unwrapped[0];
        return unwrapped[1][0];
    }

    int hash(int what, int n) {
        if (what < 0 || what > 3 || (what >= 2 && (n < 0 || n > 1000))) {
            return -1;
        }
        byte[] row = taken();
        switch (what) {
            case 0:
                out = Fips.sha3256(row);
                break;
            case 1:
                out = Fips.sha3512(row);
                break;
            case 2:
                out = Fips.shake128(n, row);
                break;
            default:
                out = Fips.shake256(n, row);
                break;
        }
        return out.length;
    }

    int put(int p, int i, int v) {
        if (!isPolynomial(p) || i < 0 || i > 255) {
            return -1;
        }
        long rest = (long) v % 3329;
        f[p][i] = (int) (rest < 0 ? rest + 3329 : rest);
        return f[p][i];
    }

    int number(int p, int i) {
        return !isPolynomial(p) || i < 0 || i > 255 ? -1 : f[p][i];
    }

    private int becomes(int p, int[] g) {
        f[p] = g;
        return 1;
    }

    int forward(int p) {
        return isPolynomial(p) ? becomes(p, Fips.forward(f[p])) : 0;
    }

    int back(int p) {
        return isPolynomial(p) ? becomes(p, Fips.back(f[p])) : 0;
    }

    int pairs(int p, int q, int r) {
        boolean known = isPolynomial(p) && isPolynomial(q) && isPolynomial(r);
        return known ? becomes(r, Fips.pairs(f[p], f[q])) : 0;
    }

    int add(int p, int q, int sign) {
        boolean known = isPolynomial(p) && isPolynomial(q) && (sign == 1 || sign == -1);
        return known ? becomes(p, Fips.plus(f[p], f[q], sign)) : 0;
    }

    int press(int p, int d) {
        return isPolynomial(p) && d >= 1 && d <= 11 ? becomes(p, Fips.press(f[p], d)) : 0;
    }

    int stretch(int p, int d) {
        return isPolynomial(p) && d >= 1 && d <= 11 ? becomes(p, Fips.stretch(f[p], d)) : 0;
    }

    int encode(int p, int d) {
        if (!isPolynomial(p) || d < 1 || d > 12) {
            return -1;
        }
        out = Fips.encode(f[p], d);
        return out.length;
    }

    int decode(int p, int d) {
        if (!isPolynomial(p) || d < 1 || d > 12) {
            return -1;
        }
        byte[] row = taken();
        if (row.length != 32 * d) {
            return -1;
        }
        f[p] = Fips.decode(row, d);
        return 256;
    }

    int sample(int p, int i, int j) {
        if (!isPolynomial(p)) {
            return -1;
        }
        byte[] row = taken();
        if (row.length != 32) {
            return -1;
        }
        byte[] seed = Fips.seedOf(row, j, i);
        int rounds = Fips.rounds(seed);
        if (rounds > bound) {
            return -2;
        }
        f[p] = Fips.sample(seed);
        return rounds;
    }

    int noise(int p, int eta, int b) {
        if (!isPolynomial(p) || eta < 2 || eta > 3) {
            return -1;
        }
        byte[] row = taken();
        if (row.length != 32) {
            return -1;
        }
        f[p] = Fips.noise(eta, row, b);
        return 256;
    }
}
