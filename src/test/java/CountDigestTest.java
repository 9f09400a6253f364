/** Promises 39 and 40: count, digest; and that refusals change nothing. */
public final class CountDigestTest {
    public static void main(String[] args) {
        counts();
        digests();
        refusalsChangeNothing();
        Due.end("CountDigestTest");
    }

    private static ChestnutSticks full() {
        ChestnutSticks x = Due.tree("123;456;.89");
        x.stick(1, 1, 2);
        x.stick(1, 2, 16);
        x.set(0, 2);
        x.set(1, 12);
        x.toss(0, 0, 1);
        x.toss(1, 1, 9);
        x.toss(2, 1, 8);
        x.toss(3, 2, 47);
        x.thrower(7, 3);
        x.thrower(4, 0);
        x.seen(0, 1);
        return x;
    }

    private static void counts() {
        ChestnutSticks x = full();
        int[] want = {9, 8, 11, 4, 2, 2, 1, 12, 0};
        for (int what = 0; what < want.length; what++) {
            Due.is("39: count(" + what + ")", x.count(what), want[what]);
        }
        x.lose(0);
        Due.is("39: count(8)", x.count(8), 1);
        Due.is("39: below", x.count(-1), -2);
        Due.is("39: above", x.count(9), -2);
    }

    private static long byCalls(ChestnutSticks x) {
        long h = 17;
        for (int what = 0; what < 8; what++) h = 31 * h + x.count(what);
        h = 31 * (31 * h + x.fault()) + x.judged();
        for (int what = 0; what < 5; what++) h = 31 * h + x.state(x.count(3), what);
        for (int kid = 0; kid < 4; kid++) h = 31 * h + x.has(kid);
        for (int stick = 0; stick < 4; stick++) {
            for (int what = 0; what < 4; what++) h = 31 * h + x.brings(stick, 9, what);
            h = 31 * (31 * h + x.worth(stick, 9)) + x.where(stick);
        }
        long[] rest = {x.which(), x.frees(0, 9, 1), x.lie(6, 0), x.lie(6, 1), x.ripe(0), x.ripe(29), x.rests(3),
            x.ends(3, 0), x.ends(3, 1), x.run(5, 3), x.hit(3, 0), x.hit(3, 1), x.seeds()};
        for (long one : rest) h = 31 * h + one;
        return h;
    }

    private static void digests() {
        ChestnutSticks x = full();
        Due.is("40: digest()", x.digest(), byCalls(x));
        Due.is("40: once more", x.digest(), byCalls(x));
        ChestnutSticks none = new ChestnutSticks();
        Due.is("40: of a new object", none.digest(), byCalls(none));
        Due.that("40: they differ", x.digest() != none.digest());
        ChestnutSticks late = Due.tree("9999;9999;9999");
        late.stick(0, 1, 2);
        late.stick(1, 2, 16);
        late.toss(0, 1, 10);
        Due.is("40: where the ends are not 0", late.digest(), byCalls(late));
        Due.is("21: one that lodges, in it", late.frees(0, 9, 1), 16);
        Due.is("25: the end, in it", late.ends(3, 0), 21);
        long before = x.digest();
        x.lose(0);
        Due.is("40: a finding does not count", x.digest(), before);
    }

    private static void refusalsChangeNothing() {
        ChestnutSticks x = full();
        long before = x.digest();
        int[] wrong = {-1, 60000, Integer.MIN_VALUE, Integer.MAX_VALUE};
        for (int w : wrong) {
            Due.is("type", x.type(w), -2);
            Due.is("stick", x.stick(w, 0, 1), -2);
            Due.is("stick", x.stick(0, w, 1), -2);
            Due.is("stick", x.stick(0, 0, w), -2);
            Due.is("set", x.set(w, 1), -2);
            Due.is("set", x.set(1, w), -2);
            Due.is("stands", x.stands(w, 1), -2);
            Due.is("stands", x.stands(0, w), -2);
            Due.is("read", x.read(w), -2);
            Due.is("toss", x.toss(w, 0, 0), -2);
            Due.is("toss", x.toss(0, w, 0), -2);
            Due.is("toss", x.toss(0, 0, w), -2);
            Due.is("state", x.state(w, 0), -2);
            Due.is("state", x.state(0, w), -2);
            Due.is("hangs", x.hangs(w), -2);
            Due.is("has", x.has(w), -2);
            Due.is("brings", x.brings(w, 0, 0), Long.MIN_VALUE + 2);
            Due.is("brings", x.brings(0, w, 0), Long.MIN_VALUE + 2);
            Due.is("brings", x.brings(0, 0, w), Long.MIN_VALUE + 2);
            Due.is("worth", x.worth(w, 0), -1000002);
            Due.is("worth", x.worth(0, w), -1000002);
            Due.is("where", x.where(w), -2);
            Due.is("frees", x.frees(w, 0, 0), -2);
            Due.is("frees", x.frees(0, w, 0), -2);
            Due.is("frees", x.frees(0, 0, w), -2);
            Due.is("lie", x.lie(w, 0), Long.MIN_VALUE + 2);
            Due.is("lie", x.lie(0, w), Long.MIN_VALUE + 2);
            Due.is("ripe", x.ripe(w), -2);
            Due.is("rests", x.rests(w), -2);
            Due.is("ends", x.ends(w, 0), -2);
            Due.is("ends", x.ends(2, w), -2);
            Due.is("thrower", x.thrower(w, 0), -2);
            Due.is("thrower", x.thrower(5, w), -2);
            Due.is("run", x.run(w, 1), -2);
            Due.is("run", x.run(0, w), -2);
            Due.is("hit", x.hit(w, 0), -2);
            Due.is("hit", x.hit(1, w), -2);
            Due.is("seen", x.seen(w, 0), -2);
            Due.is("seen", x.seen(0, w), -2);
            Due.is("count", x.count(w), -2);
        }
        Due.is("refusals change nothing", x.digest(), before);
        Due.is("and are no findings", x.count(8), 0);
    }
}
