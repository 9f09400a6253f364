import java.util.ArrayList;
import java.util.List;
import java.util.function.Consumer;
import java.util.function.ToLongFunction;

/** Refusals change nothing: an object that refused a call answers all else as its twin, which was not asked. */
final class EdgesOfRefusals {
    private static final int LEAST = Integer.MIN_VALUE, GREATEST = Integer.MAX_VALUE;
    private static final long LONG_BAD = Long.MIN_VALUE + 2;
    private static final int[] WRONG = {-1, 60, 10000, LEAST, GREATEST};

    private EdgesOfRefusals() {
    }

    static void run() {
        bad();
        nots();
        fulls();
        findings();
        asLongs();
        asAnyNumber();
    }

    /** An object with something everywhere, and everything full that can be; SHEET 3 is LOST. */
    private static void fill(ChestnutSticks x) {
        for (char c : "0123;4567;89.0;....;2222;3333".toCharArray()) {
            x.type(c);
        }
        for (int stick = 0; stick < 4; stick++) {
            x.stick(stick, 0, 4 + stick);
            x.stick(stick, 1, 1 + stick % 3);
            x.stick(stick, 2, 5 * stick);
            x.stands(stick, 6 - stick);
        }
        int[] values = {3, 14, 2, 1, 7, 5};
        for (int what = 0; what < 6; what++) {
            x.set(what, values[what]);
        }
        x.seed(987654321);
        for (int i = 0; i < 20; i++) {
            x.toss(i % 4, i / 2 % 4, i * 7 % 48);
        }
        for (int i = 0; i < 3; i++) {
            x.thrower(6 + i, i);
        }
        for (int i = 0; i < 8; i++) {
            x.seen(i, 0);
        }
        for (int s = 0; s < 3; s++) {
            x.sheet(s, s, 4);
            for (int i = 0; i < 4; i++) {
                x.lay(s, s, i, 10 * s + i);
            }
        }
    }

    /** All that can be told of an object; it is not the same afterwards. */
    private static List<Long> tell(ChestnutSticks x) {
        List<Long> told = new ArrayList<>();
        told.add(x.digest());
        for (int k = 0; k <= 20; k++) {
            for (int what = 0; what < 5; what++) {
                told.add((long) x.state(k, what));
            }
        }
        for (int day = 0; day <= 12; day++) {
            told.add(x.lie(day, 0));
        }
        for (int s = 0; s < 4; s++) {
            for (int form = 0; form < 3; form++) {
                for (int i = 0; i < 4; i++) {
                    told.add((long) x.get(s, form, i));
                }
            }
            told.add((long) x.lose(s));
        }
        for (int i = 0; i < 4; i++) {
            told.add((long) x.stands(i, 0));
            for (int what = 0; what < 3; what++) {
                told.add((long) x.stick(i, what, 1));
            }
        }
        told.add((long) x.seed(0));
        for (int what = 0; what < 6; what++) {
            told.add((long) x.set(what, 0));
        }
        told.add((long) x.back());
        told.add((long) x.undo());
        told.add((long) x.forget());
        told.add((long) x.gone());
        return told;
    }

    private static void refuses(String call, Consumer<ChestnutSticks> filled, ToLongFunction<ChestnutSticks> asked, long due) {
        ChestnutSticks x = new ChestnutSticks();
        ChestnutSticks twin = new ChestnutSticks();
        filled.accept(x);
        filled.accept(twin);
        int before = x.count(8);
        long got = asked.applyAsLong(x);
        Due.is(call, got, due);
        boolean isFinding = due <= -11 && due >= -15;
        Due.is(call + ", count(8) behind it", x.count(8), isFinding ? -10 - due : before);
        Due.that(call + " changes nothing", tell(x).equals(tell(twin)));
    }

    private static void full(String call, ToLongFunction<ChestnutSticks> asked, long due) {
        refuses(call + " of a full object", EdgesOfRefusals::fill, asked, due);
    }

    private static void both(String call, ToLongFunction<ChestnutSticks> asked, long due) {
        full(call, asked, due);
        refuses(call + " of a new object", x -> { }, asked, due);
    }

    private static void bad() {
        Due.sentence("BAD -2 (a number not as told, no such thing)",
                2, 6, 7, 9, 10, 11, 14, 15, 16, 19, 21, 23, 24, 25, 26, 28, 29, 30, 33, 34, 35, 37, 38, 39);
        both("type(256)", x -> x.type(256), -2);
        for (int w : WRONG) {
            String wrong = w == LEAST ? "least" : w == GREATEST ? "greatest" : String.valueOf(w);
            badOfTreeAndSticks(wrong, w);
            badOfThrows(wrong, w);
            badOfDays(wrong, w);
            badOfSheets(wrong, w);
        }
    }

    private static void badOfTreeAndSticks(String wrong, int w) {
        both("stick(" + wrong + ", 0, 1)", x -> x.stick(w, 0, 1), -2);
        both("stick(0, " + wrong + ", 1)", x -> x.stick(0, w, 1), -2);
        both("stick(0, 0, " + wrong + ")", x -> x.stick(0, 0, w), -2);
        both("stick(3, 1, " + wrong + ")", x -> x.stick(3, 1, w), -2);
        both("stick(3, 2, " + wrong + ")", x -> x.stick(3, 2, w), -2);
        both("set(" + wrong + ", 0)", x -> x.set(w, 0), -2);
        for (int what = 0; what < 6; what++) {
            int one = what;
            both("set(" + what + ", " + wrong + ")", x -> x.set(one, w), -2);
        }
        both("stands(" + wrong + ", 3)", x -> x.stands(w, 3), -2);
        both("stands(3, " + wrong + ")", x -> x.stands(3, w), -2);
        both("read(" + wrong + ")", x -> x.read(w), -2);
    }

    private static void badOfThrows(String wrong, int w) {
        both("toss(" + wrong + ", 0, 0)", x -> x.toss(w, 0, 0), -2);
        both("toss(0, " + wrong + ", 0)", x -> x.toss(0, w, 0), -2);
        both("toss(0, 0, " + wrong + ")", x -> x.toss(0, 0, w), -2);
        both("state(" + wrong + ", 0)", x -> x.state(w, 0), -2);
        both("state(0, " + wrong + ")", x -> x.state(0, w), -2);
        both("hangs(" + wrong + ")", x -> x.hangs(w), -2);
        both("has(" + wrong + ")", x -> x.has(w), -2);
        both("where(" + wrong + ")", x -> x.where(w), -2);
        both("frees(" + wrong + ", 0, 0)", x -> x.frees(w, 0, 0), -2);
        both("frees(0, " + wrong + ", 0)", x -> x.frees(0, w, 0), -2);
        both("frees(0, 0, " + wrong + ")", x -> x.frees(0, 0, w), -2);
        both("seen(" + wrong + ", 0)", x -> x.seen(w, 0), -2);
        both("seen(0, " + wrong + ")", x -> x.seen(0, w), -2);
    }

    private static void badOfDays(String wrong, int w) {
        both("ripe(" + wrong + ")", x -> x.ripe(w), -2);
        both("rests(" + wrong + ")", x -> x.rests(w), -2);
        both("ends(" + wrong + ", 0)", x -> x.ends(w, 0), -2);
        both("ends(2, " + wrong + ")", x -> x.ends(2, w), -2);
        both("thrower(" + wrong + ", 0)", x -> x.thrower(w, 0), -2);
        both("thrower(20, " + wrong + ")", x -> x.thrower(20, w), -2);
        // SECOND 60 is well
        int second = w == 60 ? 10001 : w;
        both("run(" + second + ", 1)", x -> x.run(second, 1), -2);
        both("run(0, " + wrong + ")", x -> x.run(0, w), -2);
        both("hit(" + wrong + ", 0)", x -> x.hit(w, 0), -2);
        both("hit(1, " + wrong + ")", x -> x.hit(1, w), -2);
    }

    private static void badOfSheets(String wrong, int w) {
        both("sheet(" + wrong + ", 0, 1)", x -> x.sheet(w, 0, 1), -2);
        both("sheet(0, " + wrong + ", 1)", x -> x.sheet(0, w, 1), -2);
        both("lose(" + wrong + ")", x -> x.lose(w), -2);
        both("lay(" + wrong + ", 0, 0, 1)", x -> x.lay(w, 0, 0, 1), -2);
        both("lay(0, " + wrong + ", 0, 1)", x -> x.lay(0, w, 0, 1), -2);
        both("get(" + wrong + ", 0, 0)", x -> x.get(w, 0, 0), LEAST);
        both("get(0, " + wrong + ", 0)", x -> x.get(0, w, 0), LEAST);
        both("copy(" + wrong + ", 0, 0, 0, 1)", x -> x.copy(w, 0, 0, 0, 1), -2);
        both("copy(0, 0, " + wrong + ", 0, 1)", x -> x.copy(0, 0, w, 0, 1), -2);
        both("write(" + wrong + ")", x -> x.write(w), -2);
        both("count(" + wrong + ")", x -> x.count(w), -2);
    }

    private static void nots() {
        Due.sentence("NOT -3 (as told), FULL -4, other FINDINGS. They change nothing", 4, 12, 21);
        refuses("undo() of a new object", x -> { }, x -> x.undo(), -3);
        refuses("back() of a new object", x -> { }, x -> x.back(), -3);
        refuses("frees() of what does not lodge", x -> x.type('0'), x -> x.frees(0, 0, 1), -3);
    }

    private static void fulls() {
        Due.sentence("FULL -4, other FINDINGS. They change nothing", 2, 11, 26, 30);
        refuses("type(48)", x -> Due.types(x, '.', 53), x -> x.type(48), -4);
        full("toss(0, 0, 0)", x -> x.toss(0, 0, 0), -4);
        full("thrower(1, 0)", x -> x.thrower(1, 0), -4);
        full("seen(0, 9)", x -> x.seen(0, 9), -4);
    }

    private static void findings() {
        Due.sentence("FINDINGS (answers -10 less the number; they change nothing but count() 8)", 10, 33, 34, 35, 36, 37, 38);
        full("read(3)", x -> x.read(3), -11);
        full("lose(3)", x -> x.lose(3), -11);
        full("lay(3, 0, 0, 7)", x -> x.lay(3, 0, 0, 7), -11);
        full("lay(1, 1, 4, 7)", x -> x.lay(1, 1, 4, 7), -12);
        full("lay(1, 1, -1, 7)", x -> x.lay(1, 1, -1, 7), -12);
        full("lay(1, 2, 0, 7)", x -> x.lay(1, 2, 0, 7), -13);
        full("copy(3, 0, 0, 0, 1)", x -> x.copy(3, 0, 0, 0, 1), -11);
        full("copy(0, 0, 3, 0, 1)", x -> x.copy(0, 0, 3, 0, 1), -11);
        full("copy(0, 0, 1, 0, 1)", x -> x.copy(0, 0, 1, 0, 1), -14);
        full("copy(1, 0, 1, 2, 3)", x -> x.copy(1, 0, 1, 2, 3), -12);
        full("copy(1, 2, 1, 0, 3)", x -> x.copy(1, 2, 1, 0, 3), -12);
        full("copy(1, 0, 1, 1, -1)", x -> x.copy(1, 0, 1, 1, -1), -12);
        full("write(3)", x -> x.write(3), -11);
        full("sheet(0, 0, -1)", x -> x.sheet(0, 0, -1), -15);
        full("sheet(3, 2, least)", x -> x.sheet(3, 2, LEAST), -15);
        int[][] gets = {{3, 0, 0, 1}, {1, 1, 4, 2}, {1, 1, -1, 2}, {1, 0, 0, 3}};
        for (int[] get : gets) {
            full("get() and count(8), FINDING " + get[3], x -> {
                int answer = x.get(get[0], get[1], get[2]);
                return answer == LEAST ? -10 - x.count(8) : answer;
            }, -10 - get[3]);
        }
    }

    private static void asLongs() {
        Due.sentence("Where the answer is a long, a refusal -x is the least long and x more", 17, 22);
        for (int w : WRONG) {
            both("brings(" + w + ", 0, 0)", x -> x.brings(w, 0, 0), LONG_BAD);
            both("brings(0, " + w + ", 0)", x -> x.brings(0, w, 0), LONG_BAD);
            both("brings(0, 0, " + w + ")", x -> x.brings(0, 0, w), LONG_BAD);
            both("lie(" + w + ", 0)", x -> x.lie(w, 0), LONG_BAD);
            both("lie(0, " + w + ")", x -> x.lie(0, w), LONG_BAD);
        }
    }

    private static void asAnyNumber() {
        Due.sentence("where any number is told, it is -1000000 less x.", 18);
        for (int w : WRONG) {
            both("worth(" + w + ", 0)", x -> x.worth(w, 0), -1000002);
            both("worth(0, " + w + ")", x -> x.worth(0, w), -1000002);
        }
    }
}
