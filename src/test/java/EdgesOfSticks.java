/** Boundary cases of STICKS, rules, SEED and KIDS: promises 6 to 10. */
final class EdgesOfSticks {
    private EdgesOfSticks() {
    }

    static void run() {
        sticksAre();
        heavy();
        longs();
        lodges();
        whatOfAStick();
        rule("SLIP (0 to 8; 0 at first)", 0, 8, 0);
        rule("DAY (0 to 29; 20 at first)", 1, 29, 20);
        rule("PRICE (0 to 9; 1 at first)", 2, 9, 1);
        rule("LAW (0, 1; 0 at first)", 3, 1, 0);
        rule("GALE (0 to 9; 5 at first)", 4, 9, 5);
        rule("ODDS of it (0 to 16; 4 at first)", 5, 16, 4);
        whatOfRules();
        seedAtFirst();
        upperBits();
        kidsStand();
        kids();
        asLongAsEachMayBe();
        fourAtMost();
        readRefuses();
    }

    private static void sticksAre() {
        Due.sentence("STICKS are 0 to 3", 6);
        ChestnutSticks x = new ChestnutSticks();
        Due.is("stick(-1, 0, 3)", x.stick(-1, 0, 3), -2);
        Due.is("stick(4, 0, 3)", x.stick(4, 0, 3), -2);
        Due.is("stick(least, 0, 3)", x.stick(Integer.MIN_VALUE, 0, 3), -2);
        Due.is("stick(greatest, 0, 3)", x.stick(Integer.MAX_VALUE, 0, 3), -2);
        for (int stick = 0; stick < 4; stick++) {
            Due.is("stick(" + stick + ", 0, ..)", x.stick(stick, 0, 9 - stick), 3);
        }
        for (int stick = 0; stick < 4; stick++) {
            Due.is("each has its own, " + stick, x.stick(stick, 0, 1), 9 - stick);
        }
    }

    private static void range(int what, int least, int most, int first) {
        for (int stick = 0; stick < 4; stick++) {
            ChestnutSticks x = new ChestnutSticks();
            String of = " of STICK " + stick;
            Due.is("below the least" + of, x.stick(stick, what, least - 1), -2);
            Due.is("above the greatest" + of, x.stick(stick, what, most + 1), -2);
            Due.is("the least int" + of, x.stick(stick, what, Integer.MIN_VALUE), -2);
            Due.is("the greatest int" + of, x.stick(stick, what, Integer.MAX_VALUE), -2);
            Due.is("at first" + of, x.stick(stick, what, least), first);
            Due.is("the least" + of, x.stick(stick, what, most), least);
            Due.is("refused" + of, x.stick(stick, what, most + 1), -2);
            Due.is("the greatest" + of, x.stick(stick, what, most), most);
        }
    }

    private static void heavy() {
        Due.sentence("HEAVY (1 to 9; 3 at first)", 6);
        range(0, 1, 9, 3);
    }

    private static void longs() {
        Due.sentence("LONG (1 to 3; 1 at first)", 6);
        range(1, 1, 3, 1);
    }

    private static void lodges() {
        Due.sentence("LODGES (0 to 16; 0 at first)", 6);
        range(2, 0, 16, 0);
    }

    private static void whatOfAStick() {
        Due.sentence("HEAVY (what = 0), LONG (1), LODGES (2) of a STICK: what it was. BAD.", 6);
        ChestnutSticks x = new ChestnutSticks();
        Due.is("what -1", x.stick(0, -1, 1), -2);
        Due.is("what 3", x.stick(0, 3, 1), -2);
        Due.is("what 3 of the last STICK", x.stick(3, 3, 1), -2);
        Due.is("what -1 of another STICK", x.stick(1, -1, 1), -2);
        Due.is("what, the greatest int", x.stick(0, Integer.MAX_VALUE, 1), -2);
    }

    private static void rule(String words, int what, int most, int first) {
        Due.sentence(words, 7);
        ChestnutSticks x = new ChestnutSticks();
        Due.is("below 0", x.set(what, -1), -2);
        Due.is("above", x.set(what, most + 1), -2);
        Due.is("the least int", x.set(what, Integer.MIN_VALUE), -2);
        Due.is("the greatest int", x.set(what, Integer.MAX_VALUE), -2);
        Due.is("at first", x.set(what, most), first);
        Due.is("the greatest", x.set(what, 0), most);
        Due.is("the least", x.set(what, most), 0);
        Due.is("refused", x.set(what, most + 1), -2);
        Due.is("as it was", x.set(what, most), most);
    }

    private static void whatOfRules() {
        Due.sentence("LAW (3), GALE (4), ODDS (5): what it was. BAD.", 7);
        ChestnutSticks x = new ChestnutSticks();
        Due.is("what -1", x.set(-1, 0), -2);
        Due.is("what 6", x.set(6, 0), -2);
        Due.is("what, the least int", x.set(Integer.MIN_VALUE, 0), -2);
        Due.is("what, the greatest int", x.set(Integer.MAX_VALUE, 0), -2);
    }

    private static void seedAtFirst() {
        Due.sentence("SEED (any; 1 at first)", 8);
        // 1103515245 and 12345 is 16838 times 65536 and more: the first LOT of 16 is 6
        ChestnutSticks x = Due.tree("000");
        x.toss(0, 0, 1);
        x.set(0, 6);
        Due.is("by SLIP 6 it is 6: not left", x.hangs(1), -1);
        x.set(0, 7);
        Due.is("by SLIP 7 it goes left", x.hangs(0), -1);
        Due.is("seed(least)", x.seed(Integer.MIN_VALUE), 0);
        Due.is("seed(greatest)", x.seed(Integer.MAX_VALUE), 0x8000);
        Due.is("seed(-1)", x.seed(-1), 0x7fff);
        Due.is("seed(0)", x.seed(0), 0xffff);
        // 12345 has no upper bits: the LOT is 0
        x.set(0, 1);
        Due.is("by SEED 0 and SLIP 1 it goes left", x.hangs(0), -1);
    }

    private static void upperBits() {
        Due.sentence("its upper 16 bits, as they were, as a number from 0 on.", 8);
        ChestnutSticks x = new ChestnutSticks();
        Due.is("of 1", x.seed(65535), 0);
        Due.is("of 65535", x.seed(65536), 0);
        Due.is("of 65536", x.seed(-65536), 1);
        Due.is("of -65536", x.seed(-65537), 65535);
        Due.is("of -65537", x.seed(0), 65534);
    }

    private static void kidsStand() {
        Due.sentence("KIDS STAND at columns (0 to 7; 0 at first)", 9);
        ChestnutSticks x = new ChestnutSticks();
        for (int kid = 0; kid < 4; kid++) {
            Due.is("column -1", x.stands(kid, -1), -2);
            Due.is("column 8", x.stands(kid, 8), -2);
            Due.is("column, the least int", x.stands(kid, Integer.MIN_VALUE), -2);
            Due.is("at first", x.stands(kid, 7), 0);
            Due.is("the last column", x.stands(kid, 0), 7);
            Due.is("the first column", x.stands(kid, kid), 0);
        }
        for (int kid = 0; kid < 4; kid++) {
            Due.is("each has its own", x.stands(kid, 0), kid);
        }
    }

    private static void kids() {
        Due.sentence("Where a KID STANDS: what it was. BAD.", 9);
        ChestnutSticks x = new ChestnutSticks();
        Due.is("KID -1", x.stands(-1, 0), -2);
        Due.is("KID 4", x.stands(4, 0), -2);
        Due.is("KID, the least int", x.stands(Integer.MIN_VALUE, 0), -2);
        Due.is("KID, the greatest int", x.stands(Integer.MAX_VALUE, 0), -2);
    }

    /** A SHEET 0 of ints with these items. */
    private static ChestnutSticks ints(int... items) {
        ChestnutSticks x = new ChestnutSticks();
        x.sheet(0, 2, items.length);
        for (int i = 0; i < items.length; i++) {
            x.lay(0, 2, i, items[i]);
        }
        for (int kid = 0; kid < 4; kid++) {
            x.stands(kid, 6);
        }
        return x;
    }

    private static void standing(ChestnutSticks x, int... columns) {
        for (int kid = 0; kid < 4; kid++) {
            Due.is("KID " + kid + " stands", x.stands(kid, 6), columns[kid]);
        }
    }

    private static void asLongAsEachMayBe() {
        Due.sentence("item by item, as long as each may be", 10);
        ChestnutSticks x = ints(0, 7, 8, 1);
        Due.is("an 8 ends it", x.read(0), 2);
        standing(x, 0, 7, 6, 6);
        x = ints(5, -1, 2, 3);
        Due.is("a -1 ends it", x.read(0), 1);
        standing(x, 5, 6, 6, 6);
        x = ints(256, 1, 2, 3);
        Due.is("a 256 ends it", x.read(0), 0);
        standing(x, 6, 6, 6, 6);
        x = ints(1, 2, 3, Integer.MIN_VALUE);
        Due.is("the least int ends it", x.read(0), 3);
        standing(x, 1, 2, 3, 6);
    }

    private static void fourAtMost() {
        Due.sentence("four at most: how many.", 10);
        ChestnutSticks x = ints();
        Due.is("no item", x.read(0), 0);
        standing(x, 6, 6, 6, 6);
        x = ints(1, 2, 3);
        Due.is("three items", x.read(0), 3);
        standing(x, 1, 2, 3, 6);
        x = ints(1, 2, 3, 4);
        Due.is("four items", x.read(0), 4);
        standing(x, 1, 2, 3, 4);
        x = ints(1, 2, 3, 4, 5);
        Due.is("five items", x.read(0), 4);
        standing(x, 1, 2, 3, 4);
        x = ints(1, 2, 3, 4, 99);
        Due.is("a fifth that may not be", x.read(0), 4);
        x.sheet(3, 0, 60);
        Due.is("sixty items", x.read(3), 4);
        standing(x, 0, 0, 0, 0);
    }

    private static void readRefuses() {
        Due.sentence("four at most: how many. BAD; NULL.", 10);
        ChestnutSticks x = new ChestnutSticks();
        Due.is("read(-1)", x.read(-1), -2);
        Due.is("read(4)", x.read(4), -2);
        Due.is("no FINDING yet", x.count(8), 0);
        Due.is("read(0) of a LOST one", x.read(0), -11);
        Due.is("the FINDING", x.count(8), 1);
        Due.is("read(3) of a LOST one", x.read(3), -11);
    }
}
