/** Rows of BYTES for tests, always the same ones. */
final class Rows {
    private Rows() {
    }

    /** first, first + 1, .. */
    static byte[] counting(int first, int count) {
        byte[] row = new byte[count];
        for (int i = 0; i < count; i++) {
            row[i] = (byte) (first + i);
        }
        return row;
    }

    static byte[] mixed(int count) {
        byte[] row = new byte[count];
        for (int i = 0; i < count; i++) {
            row[i] = (byte) (7 * i + 3);
        }
        return row;
    }

    /** 32 BYTES: eight times the same number, the highest BYTE first. */
    static byte[] eightTimes(int number) {
        byte[] row = new byte[32];
        for (int i = 0; i < 32; i++) {
            row[i] = (byte) (number >> 24 - i % 4 * 8);
        }
        return row;
    }
}
