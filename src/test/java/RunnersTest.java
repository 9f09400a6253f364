/** Promises 26 to 29: thrower, gone, run, hit. */
public final class RunnersTest {
    public static void main(String[] args) {
        throwers();
        runs();
        hits();
        Due.end("RunnersTest");
    }

    private static void throwers() {
        ChestnutSticks x = new ChestnutSticks();
        Due.is("26: every 0", x.thrower(0, 0), -2);
        Due.is("26: every 21", x.thrower(21, 0), -2);
        Due.is("26: from below 0", x.thrower(5, -1), -2);
        Due.is("26: from every", x.thrower(5, 5), -2);
        Due.is("26: from 20", x.thrower(20, 20), -2);
        Due.is("27: none", x.gone(), 0);
        Due.is("26: one", x.thrower(20, 19), 1);
        Due.is("26: two", x.thrower(1, 0), 2);
        Due.is("26: three", x.thrower(1, 0), 3);
        Due.is("39: THROWERS", x.count(5), 3);
        Due.is("26: FULL", x.thrower(2, 0), -4);
        Due.is("26: BAD ahead of FULL", x.thrower(2, 2), -2);
        Due.is("27: gone", x.gone(), 3);
        Due.is("27: none", x.gone(), 0);
        Due.is("39: THROWERS", x.count(5), 0);
        Due.is("27: they throw no more", x.run(0, 20), 0);
    }

    private static void runs() {
        ChestnutSticks x = new ChestnutSticks();
        Due.is("28: without throwers", x.run(9999, 20), 9999);
        x.thrower(10, 4);
        Due.is("28: up to the throw", x.run(0, 4), 0);
        Due.is("28: not over it", x.run(0, 5), 5);
        Due.is("28: from a throw on", x.run(4, 1), 5);
        Due.is("28: behind one", x.run(5, 9), 5);
        Due.is("28: too long for what is left", x.run(6, 9), 15);
        Due.is("28: never", x.run(0, 10), -1);
        Due.is("28: behind 9999", x.run(9999, 6), 10005);
        x.thrower(2, 0);
        Due.is("28: in between", x.run(4, 1), 5);
        Due.is("28: never", x.run(4, 2), -1);
        Due.is("28: second below", x.run(-1, 1), -2);
        Due.is("28: second above", x.run(10000, 1), -2);
        Due.is("28: r below", x.run(0, 0), -2);
        Due.is("28: r above", x.run(0, 21), -2);
    }

    private static void hits() {
        ChestnutSticks x = new ChestnutSticks();
        Due.is("29: without", x.hit(20, 0), 0);
        Due.is("29: the round without", x.hit(20, 1), 1);
        x.thrower(10, 4);
        Due.is("29: the round", x.hit(1, 1), 10);
        Due.is("29: hit", x.hit(1, 0), 1);
        Due.is("29: hit", x.hit(3, 0), 3);
        Due.is("29: hit", x.hit(20, 0), 10);
        x.thrower(4, 1);
        Due.is("29: the least multiple", x.hit(1, 1), 20);
        Due.is("29: hit", x.hit(1, 0), 7);
        Due.is("29: hit", x.hit(2, 0), 12);
        x.thrower(20, 0);
        Due.is("29: the least multiple of all", x.hit(1, 1), 20);
        x.gone();
        x.thrower(4, 0);
        Due.is("29: over the round's end", x.hit(2, 0), 2);
        x.thrower(1, 0);
        Due.is("29: in every second", x.hit(1, 0), 4);
        Due.is("29: the round", x.hit(1, 1), 4);
        Due.is("28: never", x.run(0, 1), -1);
        x.gone();
        x.thrower(20, 0);
        x.thrower(19, 0);
        x.thrower(17, 0);
        Due.is("29: the longest round", x.hit(1, 1), 6460);
        Due.is("29: hit in it", x.hit(1, 0), 6460 - 19 * 18 * 16);
        Due.is("29: r below", x.hit(0, 0), -2);
        Due.is("29: r above", x.hit(21, 1), -2);
        Due.is("29: no what", x.hit(1, 2), -2);
        Due.is("29: no what", x.hit(1, -1), -2);
    }
}
