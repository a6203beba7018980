/** The row of a round and the R it leaves, drawn with longs cut to 32 bits instead of ints that wrap around. */
final class Draw {
    final int[] row;
    final int r;

    Draw(int[] in, int seed) {
        row = in.clone();
        long lots = seed & 0xffffffffL;
        for (int i = row.length - 1; i >= 1; i--) {
            lots = (lots * 1103515245L + 12345L) & 0xffffffffL;
            int j = (int) ((lots >> 16) % (i + 1));
            int there = row[i];
            row[i] = row[j];
            row[j] = there;
        }
        r = (int) lots;
    }

    static int[] upTo(int many) {
        int[] all = new int[many];
        for (int i = 0; i < many; i++) {
            all[i] = i;
        }
        return all;
    }
}
