/** Boundary cases of what was SEEN: promises 30 to 32. */
final class EdgesOfSeen {
    private static final int ALL = Integer.MAX_VALUE;

    private EdgesOfSeen() {
    }

    static void run() {
        eightAtMost();
        throwsAndBalls();
        fullOrBad();
        forget();
        numbersAsSeed();
        allThatWasSeen();
        throwsThatThereAre();
        notDone();
    }

    private static void eightAtMost() {
        Due.sentence("SEEN, 8 at most", 30);
        ChestnutSticks x = new ChestnutSticks();
        for (int i = 1; i <= 8; i++) {
            Due.is("seen " + i, x.seen(0, 0), i);
        }
        Due.is("a ninth", x.seen(0, 0), -4);
        Due.is("count(6)", x.count(6), 8);
        x.forget();
        Due.is("the first again", x.seen(0, 0), 1);
    }

    private static void throwsAndBalls() {
        Due.sentence("THROW i (0 to 19) brought so many balls (0 to 9).", 30);
        ChestnutSticks x = new ChestnutSticks();
        Due.is("seen(-1, 0)", x.seen(-1, 0), -2);
        Due.is("seen(20, 0)", x.seen(20, 0), -2);
        Due.is("seen(0, -1)", x.seen(0, -1), -2);
        Due.is("seen(0, 10)", x.seen(0, 10), -2);
        Due.is("seen(least, 0)", x.seen(Integer.MIN_VALUE, 0), -2);
        Due.is("seen(0, greatest)", x.seen(0, Integer.MAX_VALUE), -2);
        Due.is("count(6)", x.count(6), 0);
        Due.is("seen(0, 0)", x.seen(0, 0), 1);
        Due.is("seen(19, 9)", x.seen(19, 9), 2);
    }

    private static void fullOrBad() {
        Due.sentence("SEEN more: how many. BAD; FULL.", 30);
        ChestnutSticks x = new ChestnutSticks();
        for (int i = 0; i < 8; i++) {
            x.seen(i, i);
        }
        Due.is("THROW 20, and full", x.seen(20, 0), -2);
        Due.is("10 balls, and full", x.seen(0, 10), -2);
        Due.is("full alone", x.seen(19, 9), -4);
    }

    private static void forget() {
        Due.sentence("All SEEN are forgotten: how many.", 31);
        ChestnutSticks x = Due.tree("0");
        x.toss(0, 0, 0);
        Due.is("forget() of none", x.forget(), 0);
        for (int i = 0; i < 8; i++) {
            x.seen(0, 9);
        }
        Due.is("seeds()", x.seeds(), 0);
        Due.is("forget() of eight", x.forget(), 8);
        Due.is("forget() again", x.forget(), 0);
        Due.is("count(6)", x.count(6), 0);
        Due.is("seeds() behind it", x.seeds(), ALL);
    }

    private static void numbersAsSeed() {
        Due.sentence("numbers 0 to 30 as SEED by which all that was SEEN comes out so", 32);
        Due.is("nothing SEEN: 31 bits", Due.tree("0").seeds(), ALL);
        for (int slip = 1; slip <= 8; slip++) {
            ChestnutSticks x = Due.tree("0..");
            x.set(0, slip);
            x.toss(0, 0, 1);
            x.seen(0, 1);
            int left = 0;
            for (int seed = 0; seed <= 30; seed++) {
                left |= Lots.of(seed, 1)[0] < slip ? 1 << seed : 0;
            }
            Due.is("it went left by SLIP " + slip, x.seeds(), left);
            x.seed(-5);
            Due.is("whatever SEED is", x.seeds(), left);
            Due.is("and SEED stays", x.seed(1), 65535);
        }
        // 30 times 1103515245, and 12345, is 3040698623 as an int from 0 on: upper bits 46397, LOT 13
        ChestnutSticks last = Due.tree("..0");
        last.toss(0, 0, 1);
        last.set(0, 3);
        last.seen(0, 1);
        Due.is("bit 30 by SLIP 3", last.seeds() >> 30 & 1, 1);
        last.set(0, 2);
        Due.is("no bit 30 by SLIP 2", last.seeds() >> 30 & 1, 0);
    }

    private static void allThatWasSeen() {
        Due.sentence("by which all that was SEEN comes out so", 32);
        ChestnutSticks x = Due.tree("0.0");
        x.set(0, 8);
        x.toss(0, 0, 1);
        x.toss(0, 0, 1);
        x.seen(0, 1);
        Due.is("always one", x.seeds(), ALL);
        x.seen(1, 1);
        int both = 0;
        for (int seed = 0; seed <= 30; seed++) {
            int[] lots = Lots.of(seed, 3);
            both |= lots[0] < 8 != lots[2] < 8 ? 1 << seed : 0;
        }
        Due.is("one left, one right", x.seeds(), both);
        x.seen(1, 1);
        Due.is("told twice", x.seeds(), both);
        x.seen(1, 0);
        Due.is("and the contrary", x.seeds(), 0);
    }

    private static void throwsThatThereAre() {
        Due.sentence("(of THROWS that there are; one not done brings 0)", 32);
        ChestnutSticks x = Due.tree("0");
        x.seen(0, 9);
        Due.is("there is no THROW", x.seeds(), ALL);
        x.toss(0, 0, 0);
        Due.is("now there is", x.seeds(), 0);
        x.back();
        Due.is("it is undone", x.seeds(), ALL);
        ChestnutSticks last = Due.tree("0");
        last.seen(19, 1);
        for (int i = 0; i < 19; i++) {
            last.toss(0, 0, 0);
        }
        Due.is("19 THROWS", last.seeds(), ALL);
        last.toss(0, 0, 0);
        Due.is("20 THROWS", last.seeds(), 0);
    }

    private static void notDone() {
        Due.sentence("one not done brings 0), as bits", 32);
        ChestnutSticks x = Due.tree("0");
        x.toss(0, 0, 1);
        x.seen(0, 0);
        Due.is("it brought 0", x.seeds(), ALL);
        x.seen(0, 1);
        Due.is("it did not bring 1", x.seeds(), 0);
        ChestnutSticks lodged = Due.tree("00");
        lodged.stick(0, 2, 16);
        lodged.toss(0, 0, 0);
        lodged.toss(0, 0, 1);
        lodged.seen(1, 0);
        Due.is("with a STICK that lodges", lodged.seeds(), ALL);
    }
}
