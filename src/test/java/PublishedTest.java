import java.security.MessageDigest;
import java.util.Arrays;
import java.util.HexFormat;

/**
 * Values from outside, for the class and for the model alike: the hashes of the JDK, and accumulated
 * vectors, made as the Go library's crypto/mlkem tests make theirs. The one for ML-KEM-768 (100
 * rounds) is Go's, written down from memory; the program of OpenSSL 3.5.7 gives all three of them.
 */
public final class PublishedTest {
    private static final String ACCUMULATED_512 =
            "c243a772c4f5d940208abf28d7f736bc4166753dc87d1daf599967dfff4444f7";
    private static final String ACCUMULATED_768 =
            "1114b1b6699ed191734fa339376afa7e285c9e6acf6ff0177d346696ce564415";
    private static final String ACCUMULATED_1024 =
            "dafdc6a75799978259954377f123d3f0150564fa287a80a976033052e4368142";

    private final Due due = new Due("PublishedTest");

    public static void main(String[] args) throws Exception {
        PublishedTest test = new PublishedTest();
        test.modelHashesAsTheJdk();
        test.modelAccumulates(2, 20, ACCUMULATED_512);
        test.modelAccumulates(3, 100, ACCUMULATED_768);
        test.modelAccumulates(4, 20, ACCUMULATED_1024);
        test.classAccumulates(2, 20, ACCUMULATED_512);
        test.classAccumulates(3, 100, ACCUMULATED_768);
        test.classAccumulates(4, 20, ACCUMULATED_1024);
        test.due.finish();
    }

    private void modelHashesAsTheJdk() throws Exception {
        for (int count = 0; count <= 300; count++) {
            byte[] row = Rows.mixed(count);
            byte[] short256 = MessageDigest.getInstance("SHA3-256").digest(row);
            byte[] short512 = MessageDigest.getInstance("SHA3-512").digest(row);
            due.is("the model's SHA3-256", Arrays.equals(Fips.sha3256(row), short256), true);
            due.is("the model's SHA3-512", Arrays.equals(Fips.sha3512(row), short512), true);
        }
    }

    private void modelAccumulates(int k, int rounds, String want) {
        Fips.Stream seeds = new Fips.Stream(168, "1111", new byte[0]);
        byte[] all = {};
        for (int round = 0; round < rounds; round++) {
            byte[][] keys = Fips.keys(k, seeds.next(32), seeds.next(32));
            byte[][] wrapped = Fips.wrap(k, keys[0], seeds.next(32));
            byte[] other = Fips.unwrap(k, keys[1], seeds.next(Fips.textLength(k)))[0];
            all = Fips.join(all, keys[0], wrapped[1], wrapped[0], other);
        }
        due.is("the model, k " + k, HexFormat.of().formatHex(Fips.shake128(32, all)), want);
    }

    private void classAccumulates(int k, int rounds, String want) {
        Fips.Stream seeds = new Fips.Stream(168, "1111", new byte[0]);
        byte[] all = {};
        for (int round = 0; round < rounds; round++) {
            byte[] keySeed = seeds.next(64);
            byte[] message = seeds.next(32);
            byte[] text = seeds.next(Fips.textLength(k));
            byte[] ek = read(k, keySeed, message, null, 0);
            byte[] wrappedText = read(k, keySeed, message, null, 2);
            byte[] secret = read(k, keySeed, message, null, 3);
            byte[] opened = read(k, keySeed, message, wrappedText, 3);
            due.is("both sides' SECRET", Arrays.equals(secret, opened), true);
            all = Fips.join(all, ek, wrappedText, secret, read(k, keySeed, message, text, 3));
        }
        due.is("the class, k " + k, HexFormat.of().formatHex(Fips.shake128(32, all)), want);
    }

    /** A row of a vault in which all has been done, read with new objects so that no one is used too often. */
    private byte[] read(int k, byte[] keySeed, byte[] message, byte[] text, int what) {
        byte[] row = {};
        int length = 1;
        for (int start = 0; start < length; start += 300) {
            LatticeVault vault = new LatticeVault();
            vault.choose(k);
            tape(vault, keySeed);
            vault.make();
            tape(vault, message);
            vault.wrap();
            if (text != null) {
                tape(vault, text);
                vault.load(2);
                vault.unwrap();
            }
            length = vault.length(what);
            for (int i = start; i < Math.min(length, start + 300); i++) {
                row = Fips.join(row, new byte[] {(byte) vault.at(what, i)});
            }
        }
        return row;
    }

    private static void tape(LatticeVault vault, byte[] row) {
        byte[] padded = Arrays.copyOf(row, (row.length + 19) / 20 * 20);
        for (int i = 0; i < padded.length; i += 20) {
            int[] words = new int[5];
            for (int j = 0; j < 20; j++) {
                words[j / 4] = words[j / 4] << 8 | padded[i + j] & 255;
            }
            vault.feed(words[0], words[1], words[2], words[3], words[4]);
        }
        vault.end(row.length);
    }
}
