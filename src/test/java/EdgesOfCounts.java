/** Boundary cases of count and digest: promises 39 and 40; and of an object's last call. */
final class EdgesOfCounts {
    private static final long LONG_BAD = Long.MIN_VALUE + 2;

    private EdgesOfCounts() {
    }

    static void run() {
        counts();
        atTheGreatest();
        cellsAndBalls();
        done();
        digestOfANewObject();
        digestWraps();
        countsOfTheDigest();
        stateOfAll();
        numbersOfTheDigest();
        asTheyAreTold();
        lastCall();
    }

    private static void counts() {
        Due.sentence("8 the number of the latest FINDING (0 before any). BAD.", 39);
        ChestnutSticks x = new ChestnutSticks();
        int[] atFirst = {0, 0, 0, 0, 0, 0, 0, 20, 0};
        for (int what = 0; what <= 8; what++) {
            Due.is("count(" + what + ") at first", x.count(what), atFirst[what]);
        }
        Due.is("count(-1)", x.count(-1), -2);
        Due.is("count(9)", x.count(9), -2);
        Due.is("count(least)", x.count(Integer.MIN_VALUE), -2);
        Due.is("count(greatest)", x.count(Integer.MAX_VALUE), -2);
    }

    private static ChestnutSticks greatest() {
        ChestnutSticks x = Due.tree("00000000;00000000;00000000;00000000;00000000;00000000");
        for (int i = 0; i < 20; i++) {
            x.toss(i % 4, i % 4, 47 - i);
        }
        for (int i = 0; i < 3; i++) {
            x.thrower(20 - i, 17);
        }
        for (int i = 0; i < 8; i++) {
            x.seen(i, 1);
        }
        x.set(1, 29);
        return x;
    }

    private static void atTheGreatest() {
        Due.sentence("0 CELLS, 1 balls at first, 2 bytes, 3 THROWS, 4 THROWS that are done, 5 THROWERS, 6 SEEN, 7 DAY", 39);
        ChestnutSticks x = greatest();
        int[] due = {48, 48, 53, 20, 20, 3, 8, 29};
        for (int what = 0; what < due.length; what++) {
            Due.is("count(" + what + ")", x.count(what), due[what]);
        }
        x.set(1, 0);
        Due.is("count(7) in DAY 0", x.count(7), 0);
    }

    private static void cellsAndBalls() {
        Due.sentence("0 CELLS, 1 balls at first", 39);
        ChestnutSticks x = Due.tree("0.;.0");
        x.toss(0, 0, 0);
        Due.is("balls up", x.state(1, 0), 1);
        Due.is("CELLS", x.count(0), 4);
        Due.is("balls at first, though one is down", x.count(1), 2);
        x.type('0');
        Due.is("CELLS with a FAULT", x.count(0), 0);
        Due.is("balls with a FAULT", x.count(1), 0);
        Due.is("bytes with a FAULT", x.count(2), 6);
    }

    private static void done() {
        Due.sentence("3 THROWS, 4 THROWS that are done", 39);
        ChestnutSticks x = Due.tree("0");
        Due.is("none", x.count(4), 0);
        x.toss(0, 0, 1);
        x.toss(0, 0, 0);
        x.toss(0, 0, 2);
        x.toss(0, 0, 0);
        Due.is("THROWS", x.count(3), 4);
        Due.is("those behind one that is not done are done", x.count(4), 2);
    }

    private static long hash(long... all) {
        long h = 17;
        for (long one : all) {
            h = 31 * h + one;
        }
        return h;
    }

    private static void digestOfANewObject() {
        Due.sentence("h is 17; h becomes 31 h and each of", 40);
        long bad = LONG_BAD;
        long due = hash(
                0, 0, 0, 0, 0, 0, 0, 20,
                -1, -1,
                0, 0, 0, 0, 0,
                0, 0, 0, 0,
                bad, bad, bad, bad, -1000002, -1,
                bad, bad, bad, bad, -1000002, -1,
                bad, bad, bad, bad, -1000002, -1,
                bad, bad, bad, bad, -1000002, -1,
                -1, -2,
                0, 1,
                0, 0,
                (1 << 30) - 1, 0, 0,
                5, 0, 1,
                Integer.MAX_VALUE);
        Due.is("digest() of a new object", new ChestnutSticks().digest(), due);
    }

    private static void digestWraps() {
        Due.sentence("seeds(); as longs that wrap.", 40);
        // two rows of two: RIPE 0 and GREEN 9 in DAY 0; STICK 1 lodges in CELL 9
        ChestnutSticks x = Due.tree("09;90");
        x.set(1, 0);
        x.stick(1, 2, 16);
        x.toss(2, 1, 9);
        x.stick(0, 0, 9);
        x.stick(2, 1, 3);
        x.thrower(6, 5);
        x.seen(0, 1);
        // V is 2 up to DAY 20, 4 from DAY 21 on: three times 2 is more than 4
        long due = hash(
                4, 4, 5, 1, 1, 1, 1, 0,
                -1, -1,
                3, 1, 0, 2, 1,
                0, 0, 1, 0,
                0, 1, 0, 1, 0, 0,
                0, 1, 0, 1, 0, 0,
                0, 1, 0, 1, 0, 0,
                0, 1, 0, 1, 0, 0,
                0, 16,
                // two balls by 0 in six nights of 4 sixteenths each: 2 less twice 729 by 4096
                3367, 2048,
                2, 4,
                1, 0, 2,
                6, 3, 6,
                Integer.MAX_VALUE);
        Due.is("digest()", x.digest(), due);
    }

    private static void countsOfTheDigest() {
        Due.sentence("each of: count() 0 to 7", 40);
        ChestnutSticks x = Due.tree("0");
        long before = x.digest();
        x.lose(0);
        Due.is("count(8)", x.count(8), 1);
        Due.is("count() 8 is not in it", x.digest(), before);
        x.set(1, 21);
        Due.that("count() 7 is in it", x.digest() != before);
        x.set(1, 20);
        x.seen(19, 9);
        Due.that("count() 6 is in it", x.digest() != before);
    }

    private static void stateOfAll() {
        Due.sentence("state(all, 0 to 4)", 40);
        ChestnutSticks x = Due.tree("00");
        x.toss(0, 0, 0);
        x.toss(1, 0, 1);
        long due = hash(
                2, 2, 2, 2, 2, 0, 0, 20,
                -1, -1,
                0, 2, 0, 0, 1,
                1, 1, 0, 0,
                LONG_BAD, LONG_BAD, LONG_BAD, LONG_BAD, -1000002, 0,
                LONG_BAD, LONG_BAD, LONG_BAD, LONG_BAD, -1000002, 0,
                LONG_BAD, LONG_BAD, LONG_BAD, LONG_BAD, -1000002, 0,
                LONG_BAD, LONG_BAD, LONG_BAD, LONG_BAD, -1000002, 0,
                0, -2,
                3367, 2048,
                2, 2,
                1, 0, 2,
                5, 0, 1,
                Integer.MAX_VALUE);
        Due.is("digest()", x.digest(), due);
    }

    /** Each number with which the digest asks is such here that the next to it would answer otherwise. */
    private static void numbersOfTheDigest() {
        Due.sentence("brings(it, 9, 0 to 3), worth(it, 9) (as they are told), where(); which()", 40);
        ChestnutSticks x = Due.tree("3..;.03");
        x.set(0, 4);
        x.set(1, 0);
        x.stick(0, 0, 9);
        x.stick(0, 1, 2);
        x.stick(1, 2, 16);
        x.stick(3, 0, 4);
        x.stick(3, 1, 3);
        // by SEED 1 the first LOT is 6: it goes to CELL 10 and lodges there, and the ball by 3 stays
        x.toss(0, 1, 10);
        x.toss(0, 1, 10);
        x.thrower(20, 7);
        x.thrower(20, 11);
        x.seen(0, 0);
        int notLeft = 0;
        for (int seed = 0; seed <= 30; seed++) {
            notLeft |= Lots.of(seed, 1)[0] >= 4 ? 1 << seed : 0;
        }
        long due = hash(
                6, 3, 7, 2, 1, 2, 1, 0,
                -1, 1,
                3, 0, 0, 2, 0,
                0, 0, 0, 0,
                3, 4, 3, 4, 0, 8,
                1, 2, 0, 1, 8, 9,
                1, 2, 0, 1, 8, 9,
                3, 4, 1, 1, -4, 8,
                0, 12,
                3 * 3367, 4096,
                1, 3,
                1 | 1 << 3, 3, 3,
                8, 6, 20,
                notLeft);
        Due.is("digest()", x.digest(), due);
    }

    private static void asTheyAreTold() {
        Due.sentence("frees(0, 9, 1) (as it is told)", 40);
        ChestnutSticks x = Due.tree("..;..");
        Due.is("NOT", x.frees(0, 9, 1), -3);
        long not = x.digest();
        ChestnutSticks y = Due.tree("..;..");
        y.stick(1, 2, 16);
        Due.is("LODGES alone is not in it", y.digest(), not);
        long zero = 0;
        long sixteen = 0;
        y.toss(0, 1, 8);
        Due.is("0 sixteenths", y.frees(0, 9, 1), 0);
        zero = y.digest();
        y.back();
        y.toss(0, 1, 9);
        Due.is("16 sixteenths", y.frees(0, 9, 1), 16);
        sixteen = y.digest();
        // lie (2), ripe (2), rests, ends (2), run, hit (2) and seeds come behind it
        long weight = 1;
        for (int i = 0; i < 11; i++) {
            weight *= 31;
        }
        Due.is("they differ by 16 times 31 to the power of 11", sixteen - zero, 16 * weight);
    }

    private static void lastCall() {
        Due.sentence("An object is used for at most 512 calls after it has been made", 1, 40);
        ChestnutSticks x = greatest();
        // 53 bytes and a wipe, 20 THROWS, 3 THROWERS, 8 SEEN, DAY: 86 calls
        long first = x.digest();
        for (int call = 88; call < 512; call++) {
            x.digest();
        }
        Due.is("the 512th call", x.digest(), first);
    }
}
