/** Rows of BYTES for tests, always the same ones. */
final class Rows {
    /**
     * The numbers whose eightTimes(), with i and j 0, takes 139 ROUNDS, and 141, 142, .. 181: all
     * that a search of 1.3 million found.
     */
    private static final int[] SEEDS = {
        842818, 33612, 159765, 6243, 1386, 1043, 3375, 543, 102, 322, 1, 3, 56, 11,
        5, 6, 7, 43, 4, 0, 2, 35, 15, 14, 44, 37, 251, 9,
        169, 175, 97, 2496, 2714, 2755, 1000, 7049, 35679, 37724, 26452, 243446, 837911, 830271
    };

    private Rows() {
    }

    static int knownRounds() {
        return SEEDS.length;
    }

    static int knownSeed(int n) {
        return SEEDS[n];
    }

    /** How many ROUNDS the sample of the n-th known seed takes. */
    static int roundsOf(int n) {
        return n == 0 ? 139 : 140 + n;
    }

    /** first, first + 1, .. */
    static byte[] counting(int first, int count) {
        byte[] row = new byte[count];
        for (int i = 0; i < count; i++) {
            row[i] = (byte) (first + i);
        }
        return row;
    }

    static byte[] mixed(int count) {
        byte[] row = new byte[count];
        for (int i = 0; i < count; i++) {
            row[i] = (byte) (7 * i + 3);
        }
        return row;
    }

    /** 32 BYTES: eight times the same number, the highest BYTE first. */
    static byte[] eightTimes(int number) {
        byte[] row = new byte[32];
        for (int i = 0; i < 32; i++) {
            row[i] = (byte) (number >> 24 - i % 4 * 8);
        }
        return row;
    }

    /** Of a row of groups of 12 BITS each one that can hold 3329 more holds so much. */
    static byte[] lifted(byte[] row) {
        byte[] all = {};
        for (int start = 0; start < row.length; start += 384) {
            int[] groups = Fips.groups(Fips.part(row, start, 384), 12);
            for (int i = 0; i < 256; i++) {
                groups[i] += groups[i] + 3329 < 4096 ? 3329 : 0;
            }
            all = Fips.join(all, Fips.encode(groups, 12));
        }
        return all;
    }
}
