/** Boundary cases of gales, and of who comes when: promises 22 to 25. */
final class EdgesOfNights {
    private static final long LONG_BAD = Long.MIN_VALUE + 2;

    private EdgesOfNights() {
    }

    static void run() {
        gale();
        odds();
        nights();
        asInThatDay();
        asItIsTold();
        lieInLowestTerms();
        lieRefuses();
        ripe();
        ripeAsItIsTold();
        restsOf();
        moreAlone();
        allRest();
        endsFrom();
        endsLatest();
        endsOf();
    }

    private static void fraction(ChestnutSticks x, String of, int day, long above, long below) {
        Due.is(of + ", above", x.lie(day, 0), above);
        Due.is(of + ", below", x.lie(day, 1), below);
    }

    private static void gale() {
        Due.sentence("in a night with a GALE all balls of THE TREE (as it is told) that HANG by less fall", 22);
        ChestnutSticks x = Due.tree("01234;56789");
        x.set(5, 16);
        for (int gale = 0; gale <= 9; gale++) {
            x.set(4, gale);
            fraction(x, "GALE " + gale, 1, gale, 1);
        }
    }

    private static void odds() {
        Due.sentence("ODDS of it (0 to 16; 4 at first) each night", 22);
        ChestnutSticks x = Due.tree("00");
        fraction(x, "ODDS at first", 1, 1, 2);
        x.set(5, 0);
        fraction(x, "ODDS 0", 12, 0, 1);
        x.set(5, 16);
        fraction(x, "ODDS 16, one night", 1, 2, 1);
        fraction(x, "ODDS 16, all nights", 12, 2, 1);
        x.set(5, 1);
        fraction(x, "ODDS 1", 1, 1, 8);
        x.set(5, 15);
        fraction(x, "ODDS 15", 1, 15, 8);
        fraction(x, "ODDS 15, two nights", 2, 255, 128);
    }

    private static void nights() {
        Due.sentence("the mean of how many fell by the morning of DAY d (0 to 12; nights 0 to d less 1", 22);
        ChestnutSticks x = Due.tree("0");
        x.set(5, 8);
        fraction(x, "no night", 0, 0, 1);
        for (int day = 1; day <= 12; day++) {
            fraction(x, "by DAY " + day, day, (1L << day) - 1, 1L << day);
        }
    }

    private static void asInThatDay() {
        Due.sentence("in which they HANG as in that DAY): a FRACTION.", 22);
        ChestnutSticks x = Due.tree("9");
        x.set(4, 9);
        x.set(5, 8);
        fraction(x, "by DAY 3 it HANGS by 9 in all nights", 3, 0, 1);
        fraction(x, "in night 3 it HANGS by 8", 4, 1, 2);
        fraction(x, "nine nights", 12, 511, 512);
        x.set(4, 6);
        fraction(x, "in night 11 it HANGS by 6", 12, 0, 1);
        x.set(4, 7);
        fraction(x, "in nights 9 to 11 it HANGS by 6", 12, 7, 8);
        Due.write(x, "0");
        x.set(4, 1);
        fraction(x, "a ball by 0", 1, 1, 2);
        x.set(4, 0);
        fraction(x, "no GALE is less", 12, 0, 1);
    }

    private static void asItIsTold() {
        Due.sentence("all balls of THE TREE (as it is told)", 22);
        ChestnutSticks x = Due.tree("00");
        x.set(5, 16);
        x.toss(0, 0, 0);
        x.toss(0, 0, 1);
        Due.is("all are down", x.state(2, 0), 0);
        fraction(x, "behind THROWS", 1, 2, 1);
        x.set(1, 29);
        Due.write(x, "99");
        fraction(x, "whatever DAY it is", 1, 0, 1);
        x.type(';');
        fraction(x, "with a FAULT", 12, 0, 1);
    }

    private static void lieInLowestTerms() {
        Due.sentence("FRACTIONS are told in lowest terms, above and below (0 by 1).", 22);
        String row = ";00000000";
        ChestnutSticks x = Due.tree("00000000" + row + row + row + row + row);
        x.set(5, 1);
        long stays = 1;
        for (int night = 0; night < 12; night++) {
            stays *= 15;
        }
        long all = 1L << 48;
        // 48 is 16 times 3: four halvings
        fraction(x, "48 balls, twelve nights", 12, 3 * (all - stays), all / 16);
        fraction(x, "48 balls, one night", 1, 3, 1);
        x.set(5, 0);
        fraction(x, "never", 12, 0, 1);
        fraction(new ChestnutSticks(), "no TREE", 12, 0, 1);
    }

    private static void lieRefuses() {
        Due.sentence("LIE: above, below. BAD. (As the least long.)", 22);
        ChestnutSticks x = Due.tree("0");
        Due.is("DAY -1", x.lie(-1, 0), LONG_BAD);
        Due.is("DAY 13", x.lie(13, 0), LONG_BAD);
        Due.is("DAY 12", x.lie(12, 1), 16777216);
        Due.is("what -1", x.lie(0, -1), LONG_BAD);
        Due.is("what 2", x.lie(0, 2), LONG_BAD);
        Due.is("DAY, the least int", x.lie(Integer.MIN_VALUE, 0), LONG_BAD);
    }

    private static void ripe() {
        Due.sentence("V. BAD.", 23);
        ChestnutSticks x = Due.tree("29");
        Due.is("ripe(-1)", x.ripe(-1), -2);
        Due.is("ripe(0)", x.ripe(0), 1);
        Due.is("ripe(20)", x.ripe(20), 1);
        Due.is("ripe(21)", x.ripe(21), 2);
        Due.is("ripe(29)", x.ripe(29), 2);
        Due.is("ripe(30)", x.ripe(30), -2);
        Due.is("ripe(greatest)", x.ripe(Integer.MAX_VALUE), -2);
    }

    private static void ripeAsItIsTold() {
        Due.sentence("V of a DAY: RIPE balls of THE TREE as it is told.", 23);
        ChestnutSticks x = Due.tree("0");
        x.toss(0, 0, 0);
        Due.is("behind a THROW", x.ripe(20), 1);
        x.set(1, 0);
        Due.write(x, "9");
        Due.is("whatever DAY it is", x.ripe(29), 1);
        Due.is("no TREE", new ChestnutSticks().ripe(29), 0);
    }

    private static void restsOf() {
        Due.sentence("RESTS of n (2 to 6)", 24);
        ChestnutSticks x = Due.tree("2333");
        // V is 1 in DAYS 0 to 2, 4 from DAY 3 on
        Due.is("rests(1)", x.rests(1), -2);
        Due.is("rests(2)", x.rests(2), 1 | 1 << 3);
        Due.is("rests(6)", x.rests(6), 1);
        Due.is("rests(7)", x.rests(7), -2);
        Due.is("rests(-1)", x.rests(-1), -2);
        Due.is("rests(least)", x.rests(Integer.MIN_VALUE), -2);
        Due.is("rests(greatest)", x.rests(Integer.MAX_VALUE), -2);
    }

    private static void moreAlone() {
        Due.sentence("none would have more alone by a DAY ahead of that: as bits", 24);
        ChestnutSticks x = Due.tree("2333333");
        // V is 1 in DAYS 0 to 2, then 7
        Due.is("6 is less than 7", x.rests(6), 1 | 1 << 3);
        Due.write(x, "233333");
        Due.is("as much is no more", x.rests(6), 1 | 1 << 3);
        Due.write(x, "23333");
        Due.is("6 is more than 5", x.rests(6), 1);
        Due.is("5 is as much as 5", x.rests(5), 1 | 1 << 3);
        Due.is("4 is less than 5", x.rests(4), 1 | 1 << 3);
        Due.write(x, "0");
        Due.is("a DAY behind that says nothing: DAY 0", x.rests(2), 1);
    }

    private static void allRest() {
        Due.sentence("DAYS in which all come, so that each alike has V by n", 24);
        Due.is("no TREE: all thirty", new ChestnutSticks().rests(2), (1 << 30) - 1);
        ChestnutSticks x = Due.tree("9");
        // nothing is RIPE up to DAY 20; in DAY 21 there is one, and no DAY ahead has any
        Due.is("none RIPE: up to the first RIPE", x.rests(2), (1 << 22) - 1);
    }

    private static void endsFrom() {
        Due.sentence("from the first DAY with the greatest V on, as long as it is no REST", 25);
        ChestnutSticks x = Due.tree("9");
        Due.is("the first of the greatest, a REST", x.ends(2, 0), 21);
        Due.is("V there", x.ends(2, 1), 1);
        Due.write(x, "....");
        Due.is("no balls: DAY 0", x.ends(2, 0), 0);
        Due.is("no balls: V", x.ends(2, 1), 0);
        Due.is("no TREE: DAY 0", new ChestnutSticks().ends(6, 0), 0);
        Due.is("no TREE: V", new ChestnutSticks().ends(6, 1), 0);
        Due.write(x, "0");
        Due.is("DAY 0 itself", x.ends(6, 0), 0);
        Due.is("DAY 0 itself, V", x.ends(6, 1), 1);
    }

    private static void endsLatest() {
        Due.sentence("to the latest DAY ahead with more for one alone: where that ends; V there", 25);
        // V: 1 from DAY 3 on, 4 from DAY 6 on, 6 from DAY 9 on
        ChestnutSticks x = Due.tree("344455..");
        Due.is("n 2: 9, 8 .. 6 and no further", x.ends(2, 0), 6);
        Due.is("n 2: V", x.ends(2, 1), 4);
        // 4 by 4 is as much as the 1 of DAY 5
        Due.is("n 4: as much is no more", x.ends(4, 0), 6);
        Due.is("n 5: on to DAY 5 .. 3", x.ends(5, 0), 3);
        Due.is("n 5: V", x.ends(5, 1), 1);
        // V: 3 from DAY 0 on, 5 from DAY 3 on, 7 from DAY 21 on
        Due.write(x, "0003399.");
        Due.is("n 2: from DAY 21 all the way", x.ends(2, 0), 0);
        Due.is("n 2: V there", x.ends(2, 1), 3);
        // V: 2 from DAY 0 on, 8 from DAY 3 on
        Due.write(x, "00333333");
        Due.is("n 3: 6 is less than 8", x.ends(3, 0), 3);
        Due.is("n 4: 8 is as much", x.ends(4, 0), 3);
        Due.is("n 5: 10 is more", x.ends(5, 0), 0);
        // V: 2 from DAY 0 on, 5 from DAY 3 on, 6 from DAY 6 on; three times 2 is no more than 6, but than 5
        Due.write(x, "003334..");
        Due.is("n 3: DAY 0 is not better than DAY 6, but than DAY 3", x.ends(3, 0), 0);
        Due.is("n 2: ends at DAY 3", x.ends(2, 0), 3);
    }

    private static void endsOf() {
        Due.sentence("ENDS: the DAY (what = 0), V there (1). BAD.", 25);
        ChestnutSticks x = Due.tree("0");
        Due.is("ends(1, 0)", x.ends(1, 0), -2);
        Due.is("ends(7, 0)", x.ends(7, 0), -2);
        Due.is("ends(2, -1)", x.ends(2, -1), -2);
        Due.is("ends(2, 2)", x.ends(2, 2), -2);
        Due.is("ends(6, 1)", x.ends(6, 1), 1);
        Due.is("ends(least, 0)", x.ends(Integer.MIN_VALUE, 0), -2);
    }
}
