/** LOTS of 16 from a SEED on, as the document tells them, and SEEDS by which LOTS come as a test needs them. */
final class Lots {
    static final int ANY = -1;

    private Lots() {
    }

    static int[] of(int seed, int n) {
        int[] lots = new int[n];
        long now = seed;
        for (int i = 0; i < n; i++) {
            // as ints that wrap: the lowest 32 bits of the sum, of which the upper 16 count from 0 on
            now = (1103515245L * now + 12345L) & 0xffffffffL;
            lots[i] = (int) (now / 65536 % 16);
        }
        return lots;
    }

    /** The least number from 0 on by which the first LOTS are these. */
    static int seedFor(int... want) {
        for (int seed = 0; seed < 10_000_000; seed++) {
            if (fits(of(seed, want.length), want)) {
                return seed;
            }
        }
        throw new IllegalStateException("no such seed");
    }

    private static boolean fits(int[] lots, int[] want) {
        for (int i = 0; i < want.length; i++) {
            if (want[i] != ANY && want[i] != lots[i]) {
                return false;
            }
        }
        return true;
    }
}
