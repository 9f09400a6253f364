/** Boundary cases of those who throw and those who run in between: promises 26 to 29. */
final class EdgesOfRunners {
    private EdgesOfRunners() {
    }

    static void run() {
        threeAtMost();
        everyAndFrom();
        fullOrBad();
        gone();
        runFrom();
        runOf();
        runNone();
        nobodyThrows();
        hits();
        theRound();
        hitRefuses();
    }

    private static void threeAtMost() {
        Due.sentence("THROWERS, 3 at most", 26);
        ChestnutSticks x = new ChestnutSticks();
        for (int i = 1; i <= 3; i++) {
            Due.is("thrower " + i, x.thrower(20, i), i);
        }
        Due.is("a fourth", x.thrower(20, 4), -4);
        Due.is("count(5)", x.count(5), 3);
        Due.is("it does not throw", x.run(4, 1), 4);
        x.gone();
        Due.is("the first again", x.thrower(20, 4), 1);
    }

    private static void everyAndFrom() {
        Due.sentence("every so many (1 to 20) SECONDS, from a SECOND (0 to 19, less than these) on", 26);
        ChestnutSticks x = new ChestnutSticks();
        Due.is("thrower(0, 0)", x.thrower(0, 0), -2);
        Due.is("thrower(0, -1)", x.thrower(0, -1), -2);
        Due.is("thrower(21, 0)", x.thrower(21, 0), -2);
        Due.is("thrower(21, 20)", x.thrower(21, 20), -2);
        Due.is("thrower(least, 0)", x.thrower(Integer.MIN_VALUE, 0), -2);
        Due.is("thrower(5, -1)", x.thrower(5, -1), -2);
        Due.is("thrower(5, 5)", x.thrower(5, 5), -2);
        Due.is("thrower(1, 1)", x.thrower(1, 1), -2);
        Due.is("thrower(20, 20)", x.thrower(20, 20), -2);
        Due.is("thrower(5, least)", x.thrower(5, Integer.MIN_VALUE), -2);
        Due.is("count(5)", x.count(5), 0);
        Due.is("thrower(1, 0)", x.thrower(1, 0), 1);
        Due.is("thrower(20, 0)", x.thrower(20, 0), 2);
        Due.is("thrower(20, 19)", x.thrower(20, 19), 3);
    }

    private static void fullOrBad() {
        Due.sentence("A THROWER more: how many. BAD; FULL.", 26);
        ChestnutSticks x = new ChestnutSticks();
        for (int i = 0; i < 3; i++) {
            x.thrower(2, 0);
        }
        Due.is("every 21, and full", x.thrower(21, 0), -2);
        Due.is("from as many, and full", x.thrower(2, 2), -2);
        Due.is("full alone", x.thrower(2, 1), -4);
    }

    private static void gone() {
        Due.sentence("All THROWERS are gone: how many.", 27);
        ChestnutSticks x = new ChestnutSticks();
        Due.is("gone() of none", x.gone(), 0);
        x.thrower(1, 0);
        x.thrower(1, 0);
        x.thrower(1, 0);
        Due.is("gone() of three", x.gone(), 3);
        Due.is("gone() again", x.gone(), 0);
        Due.is("count(5)", x.count(5), 0);
        Due.is("run(0, 20)", x.run(0, 20), 0);
        Due.is("hit(1, 1)", x.hit(1, 1), 1);
    }

    private static void runFrom() {
        Due.sentence("the first SECOND from a told one (0 to 9999) on", 28);
        ChestnutSticks x = new ChestnutSticks();
        Due.is("run(-1, 1)", x.run(-1, 1), -2);
        Due.is("run(10000, 1)", x.run(10000, 1), -2);
        Due.is("run(least, 1)", x.run(Integer.MIN_VALUE, 1), -2);
        Due.is("run(greatest, 1)", x.run(Integer.MAX_VALUE, 1), -2);
        Due.is("run(0, 1)", x.run(0, 1), 0);
        Due.is("run(9999, 1)", x.run(9999, 1), 9999);
        x.thrower(2, 1);
        Due.is("9999 is hit: one behind it", x.run(9999, 1), 10000);
        x.gone();
        x.thrower(20, 0);
        x.thrower(20, 1);
        // 9980 and 9981 are hit, and so are 10000 and 10001
        Due.is("run(9999, 18)", x.run(9999, 18), 10002);
        Due.is("run(9983, 17)", x.run(9983, 17), 9983);
    }

    private static void runOf() {
        Due.sentence("RUN of r (1 to 20) SECONDS", 28);
        ChestnutSticks x = new ChestnutSticks();
        Due.is("run(0, 0)", x.run(0, 0), -2);
        Due.is("run(0, 21)", x.run(0, 21), -2);
        Due.is("run(0, -1)", x.run(0, -1), -2);
        Due.is("run(0, greatest)", x.run(0, Integer.MAX_VALUE), -2);
        Due.is("run(5, 20)", x.run(5, 20), 5);
        x.thrower(20, 19);
        Due.is("run(0, 19)", x.run(0, 19), 0);
        Due.is("run(1, 19)", x.run(1, 19), 20);
        Due.is("run(0, 20)", x.run(0, 20), -1);
    }

    private static void runNone() {
        Due.sentence("RUN; NONE. BAD.", 28);
        ChestnutSticks x = new ChestnutSticks();
        x.thrower(1, 0);
        Due.is("in every SECOND", x.run(0, 1), -1);
        Due.is("BAD ahead of NONE", x.run(10000, 1), -2);
        x.gone();
        x.thrower(2, 0);
        x.thrower(2, 1);
        Due.is("by turns", x.run(9999, 1), -1);
        x.gone();
        // between two of those every 17 SECONDS 16 are free, if the others throw in none of them
        x.thrower(20, 0);
        x.thrower(19, 0);
        x.thrower(17, 0);
        Due.is("all at once in SECOND 0", x.run(0, 16), 1);
        Due.is("16 are the most", x.run(0, 17), -1);
        Due.is("from 323, 17 times 19, to 340, 17 times 20", x.run(2, 16), 324);
    }

    private static void nobodyThrows() {
        Due.sentence("from which on nobody throws in r SECONDS", 28);
        ChestnutSticks x = new ChestnutSticks();
        x.thrower(7, 3);
        Due.is("SECONDS 0, 1, 2", x.run(0, 3), 0);
        Due.is("not 3 as well", x.run(0, 4), 4);
        Due.is("from SECOND 3 on", x.run(3, 1), 4);
        Due.is("SECONDS 4 to 9", x.run(3, 6), 4);
        Due.is("not 10 as well", x.run(3, 7), -1);
        Due.is("SECONDS 5 to 9 are too few", x.run(5, 6), 11);
    }

    private static void hits() {
        Due.sentence("HIT: in how many SECONDS of a ROUND (the least multiple of all) one that is begun is hit", 29);
        ChestnutSticks x = new ChestnutSticks();
        Due.is("without THROWERS", x.hit(20, 0), 0);
        x.thrower(10, 0);
        for (int r = 1; r <= 20; r++) {
            Due.is("every 10, r " + r, x.hit(r, 0), Math.min(r, 10));
        }
        x.gone();
        x.thrower(1, 0);
        Due.is("in every SECOND", x.hit(1, 0), 1);
        x.thrower(20, 19);
        Due.is("in every SECOND of 20", x.hit(1, 0), 20);
        x.gone();
        x.thrower(2, 0);
        x.thrower(4, 0);
        Due.is("two at once count once", x.hit(1, 0), 2);
    }

    private static void theRound() {
        Due.sentence("the ROUND (1 without)", 29);
        ChestnutSticks x = new ChestnutSticks();
        Due.is("without", x.hit(1, 1), 1);
        int[][] rounds = {{1, 1, 1, 1}, {4, 6, 10, 60}, {20, 10, 5, 20}, {20, 19, 17, 6460}, {16, 12, 18, 144}, {20, 20, 20, 20}};
        for (int[] round : rounds) {
            x.gone();
            for (int i = 0; i < 3; i++) {
                x.thrower(round[i], 0);
            }
            Due.is("of " + round[0] + ", " + round[1] + ", " + round[2], x.hit(20, 1), round[3]);
        }
    }

    private static void hitRefuses() {
        Due.sentence("HIT (what = 0), the ROUND (1). BAD.", 29);
        ChestnutSticks x = new ChestnutSticks();
        Due.is("hit(0, 0)", x.hit(0, 0), -2);
        Due.is("hit(0, 1)", x.hit(0, 1), -2);
        Due.is("hit(21, 0)", x.hit(21, 0), -2);
        Due.is("hit(21, 1)", x.hit(21, 1), -2);
        Due.is("hit(1, -1)", x.hit(1, -1), -2);
        Due.is("hit(1, 2)", x.hit(1, 2), -2);
        Due.is("hit(20, 1)", x.hit(20, 1), 1);
        Due.is("hit(least, 0)", x.hit(Integer.MIN_VALUE, 0), -2);
    }
}
