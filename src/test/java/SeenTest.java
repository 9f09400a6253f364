/** Promises 30 to 32: seen, forget, seeds. */
public final class SeenTest {
    private static final int ALL = Integer.MAX_VALUE;

    public static void main(String[] args) {
        seen();
        seeds();
        Due.end("SeenTest");
    }

    private static void seen() {
        ChestnutSticks x = new ChestnutSticks();
        Due.is("30: throw below", x.seen(-1, 0), -2);
        Due.is("30: throw above", x.seen(20, 0), -2);
        Due.is("30: balls below", x.seen(0, -1), -2);
        Due.is("30: balls above", x.seen(0, 10), -2);
        Due.is("31: none", x.forget(), 0);
        for (int i = 1; i <= 8; i++) {
            Due.is("30: seen", x.seen(19, 9), i);
        }
        Due.is("30: FULL", x.seen(0, 0), -4);
        Due.is("30: BAD ahead of FULL", x.seen(20, 0), -2);
        Due.is("39: SEEN", x.count(6), 8);
        Due.is("31: forget", x.forget(), 8);
        Due.is("31: none", x.forget(), 0);
        Due.is("39: SEEN", x.count(6), 0);
    }

    private static void seeds() {
        ChestnutSticks x = Due.tree(".0");
        Due.is("32: nothing seen", x.seeds(), ALL);
        x.seen(0, 1);
        Due.is("32: of a throw that there is not", x.seeds(), ALL);
        x.set(0, 8);
        x.toss(0, 0, 0);
        int right = 0;
        for (int seed = 0; seed <= 30; seed++) {
            int lot = (1103515245 * seed + 12345 >>> 16) % 16;
            right |= lot >= 8 ? 1 << seed : 0;
        }
        Due.is("32: went right", x.seeds(), right);
        x.forget();
        x.seen(0, 0);
        Due.is("32: went left", x.seeds(), ALL ^ right);
        x.seed(77);
        Due.is("32: whatever SEED is", x.seeds(), ALL ^ right);
        x.seen(0, 1);
        Due.is("32: one throw, two answers", x.seeds(), 0);
        x.forget();
        x.toss(0, 0, 47);
        x.seen(1, 0);
        Due.is("32: not done brings 0", x.seeds(), ALL);
        x.seen(1, 1);
        Due.is("32: and no more", x.seeds(), 0);
        x.back();
        Due.is("32: the throw is undone", x.seeds(), ALL);
    }
}
