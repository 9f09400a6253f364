/** Boundary cases of THROWS: promises 11 to 16. */
final class EdgesOfThrows {
    private static final int ANY = Lots.ANY;

    private EdgesOfThrows() {
    }

    static void run() {
        twentyAtMost();
        fullOrBad();
        kidsAndSticks();
        cellsThatMayBe();
        backOfNone();
        aCellThatIsNot();
        notDoneTakesNoLot();
        leftOrRight();
        slipByNoneAndByAll();
        thereOrNot();
        longColumns();
        upThereStill();
        lessThanHeavy();
        sticksComeDown();
        lessThanLodges();
        whereItWent();
        ifThatIsThere();
        aStickThatLodges();
        oneAfterTheOther();
        judged();
        intsThatWrap();
        theThrowers();
        theNearest();
        wasted();
        behindK();
        stateWhats();
        theLast();
        noneUp();
        has();
    }

    private static void twentyAtMost() {
        Due.sentence("THROWS, 20 at most (0 on)", 11);
        ChestnutSticks x = Due.tree("0");
        for (int i = 1; i <= 20; i++) {
            Due.is("THROW " + (i - 1), x.toss(3, 3, 0), i);
        }
        Due.is("a 21st", x.toss(3, 3, 0), -4);
        Due.is("count(3)", x.count(3), 20);
        Due.is("count(4)", x.count(4), 20);
        Due.is("back()", x.back(), 19);
        Due.is("the 20th again", x.toss(0, 0, 47), 20);
        Due.is("judged() is the last", x.judged(), 19);
    }

    private static void fullOrBad() {
        Due.sentence("A THROW more (CELL 0 to 47): how many. BAD; FULL.", 11);
        ChestnutSticks x = new ChestnutSticks();
        for (int i = 0; i < 20; i++) {
            x.toss(0, 0, 0);
        }
        Due.is("no KID, and full", x.toss(4, 0, 0), -2);
        Due.is("no STICK, and full", x.toss(0, 4, 0), -2);
        Due.is("no CELL, and full", x.toss(0, 0, 48), -2);
        Due.is("full alone", x.toss(3, 3, 47), -4);
    }

    private static void kidsAndSticks() {
        Due.sentence("by a KID (0 to 3), with a STICK at a CELL", 11);
        ChestnutSticks x = new ChestnutSticks();
        Due.is("KID -1", x.toss(-1, 0, 0), -2);
        Due.is("KID 4", x.toss(4, 0, 0), -2);
        Due.is("STICK -1", x.toss(0, -1, 0), -2);
        Due.is("STICK 4", x.toss(0, 4, 0), -2);
        Due.is("KID, the least int", x.toss(Integer.MIN_VALUE, 0, 0), -2);
        Due.is("STICK, the greatest int", x.toss(0, Integer.MAX_VALUE, 0), -2);
        Due.is("count(3)", x.count(3), 0);
        Due.is("KID 0, STICK 0", x.toss(0, 0, 0), 1);
        Due.is("KID 3, STICK 3", x.toss(3, 3, 0), 2);
    }

    private static void cellsThatMayBe() {
        Due.sentence("A THROW more (CELL 0 to 47): how many.", 11);
        ChestnutSticks x = new ChestnutSticks();
        Due.is("CELL -1", x.toss(0, 0, -1), -2);
        Due.is("CELL 48", x.toss(0, 0, 48), -2);
        Due.is("CELL, the least int", x.toss(0, 0, Integer.MIN_VALUE), -2);
        Due.is("CELL, the greatest int", x.toss(0, 0, Integer.MAX_VALUE), -2);
        Due.is("CELL 0, though there is none", x.toss(0, 0, 0), 1);
        Due.is("CELL 47, though there is none", x.toss(0, 0, 47), 2);
    }

    private static void backOfNone() {
        Due.sentence("The last THROW is undone: how many are left. NOT: there is none.", 12);
        ChestnutSticks x = Due.tree("00");
        Due.is("back() of none", x.back(), -3);
        x.toss(0, 0, 0);
        x.toss(0, 0, 1);
        Due.is("back() of two", x.back(), 1);
        Due.is("its ball is up again", x.hangs(1), 0);
        Due.is("the other's is not", x.hangs(0), -1);
        Due.is("back() of one", x.back(), 0);
        Due.is("back() of none", x.back(), -3);
        Due.is("count(3)", x.count(3), 0);
    }

    private static void aCellThatIsNot() {
        Due.sentence("(that there is, else it is not done)", 13, 14);
        ChestnutSticks x = Due.tree("0.");
        x.toss(0, 0, 1);
        Due.is("a CELL with no ball is there", x.judged(), -1);
        x.toss(0, 0, 2);
        Due.is("a column too far right is not", x.judged(), 1);
        Due.is("count(4)", x.count(4), 1);
        x.back();
        x.toss(0, 0, 8);
        Due.is("a row too far down is not", x.judged(), 1);
        x.type(';');
        x.type('0');
        x.type('0');
        Due.is("now it is", x.judged(), -1);
        Due.is("and its ball came down", x.state(2, 4), 1);
        x.wipe();
        Due.is("without a TREE none is", x.judged(), 0);
        Due.is("count(4) without a TREE", x.count(4), 0);
    }

    private static void notDoneTakesNoLot() {
        Due.sentence("one not done takes none", 14);
        int seed = Lots.seedFor(0, 15, 15, 15);
        ChestnutSticks x = Due.tree("000;000");
        x.set(0, 1);
        x.seed(seed);
        x.toss(0, 0, 47);
        x.toss(0, 0, 1);
        Due.is("the first LOT, 0, brings it left", x.hangs(0), -1);
        x.toss(0, 0, 3);
        x.toss(0, 0, 9);
        Due.is("the third, 15, brings it right", x.hangs(10), -1);
    }

    private static void leftOrRight() {
        Due.sentence("a LOT of 16: less than SLIP: left; 16 less SLIP or more: right", 14);
        for (int lot = 0; lot < 16; lot++) {
            int seed = Lots.seedFor(lot);
            for (int slip = 0; slip <= 8; slip++) {
                ChestnutSticks x = Due.tree("000");
                x.set(0, slip);
                x.seed(seed);
                x.toss(0, 0, 1);
                int went = lot < slip ? 0 : lot >= 16 - slip ? 2 : 1;
                Due.is("by LOT " + lot + " and SLIP " + slip, x.hangs(went), -1);
                Due.is("one ball alone", x.state(1, 0), 2);
            }
        }
    }

    private static void slipByNoneAndByAll() {
        Due.sentence("goes by SLIP sixteenths to the CELL left of it, by as many to that right of it", 14, 17);
        ChestnutSticks x = Due.tree(".0.");
        Due.is("SLIP 0 at it", x.brings(0, 1, 0), 1);
        Due.is("SLIP 0 left of it", x.brings(0, 0, 0), 0);
        Due.is("SLIP 0 right of it", x.brings(0, 2, 0), 0);
        x.set(0, 8);
        Due.is("SLIP 8 at it", x.brings(0, 1, 0), 0);
        Due.is("SLIP 8 left of it", x.brings(0, 0, 1), 2);
        Due.is("SLIP 8 right of it", x.brings(0, 2, 1), 2);
        x.set(0, 1);
        Due.is("SLIP 1 at it", x.brings(0, 1, 0), 7);
        Due.is("SLIP 1 at it, below", x.brings(0, 1, 1), 8);
        Due.is("SLIP 1 left of it", x.brings(0, 0, 1), 16);
        Due.is("SLIP 1 right of it", x.brings(0, 2, 1), 16);
        x.toss(0, 0, 1);
        x.set(0, 8);
        for (int lot = 0; lot < 16; lot++) {
            x.seed(Lots.seedFor(lot));
            Due.is("SLIP 8 never stays, LOT " + lot, x.state(1, 0), 1);
        }
    }

    private static void thereOrNot() {
        Due.sentence("(there or not), else to it", 14, 17);
        int left = Lots.seedFor(0);
        int right = Lots.seedFor(15);
        beside("00000000;00000000;00000000", 8, left);
        beside("00000000;00000000;00000000", 15, right);
        beside("00;00;00", 8, left);
        beside("00;00;00", 9, right);
        ChestnutSticks x = Due.tree("0");
        x.set(0, 8);
        Due.is("brings of a single CELL", x.brings(0, 0, 0), 0);
    }

    private static void beside(String text, int cell, int seed) {
        ChestnutSticks x = Due.tree(text);
        x.set(0, 1);
        x.seed(seed);
        int balls = x.state(0, 0);
        x.toss(0, 0, cell);
        Due.is("no ball beside CELL " + cell, x.state(1, 0), balls);
        Due.is("it is done", x.judged(), -1);
        Due.is("count(4)", x.count(4), 1);
    }

    private static void longColumns() {
        Due.sentence("From where it goes on it strikes LONG columns of that row", 14, 17);
        int left = Lots.seedFor(0);
        for (int reach = 1; reach <= 3; reach++) {
            ChestnutSticks x = Due.tree("00000000;00000000;00000000");
            x.stick(0, 1, reach);
            x.toss(0, 0, 10);
            for (int cell = 8; cell < 16; cell++) {
                boolean struck = cell >= 10 && cell < 10 + reach;
                Due.is("LONG " + reach + ", CELL " + cell, x.hangs(cell), struck ? -1 : 0);
            }
            x.toss(0, 0, 15);
            Due.is("LONG " + reach + " at the last column", x.state(2, 4), 1);
            Due.is("not on in the next row", x.hangs(16), 0);
            x.back();
            x.back();
            x.set(0, 1);
            x.seed(left);
            x.toss(0, 0, 8);
            Due.is("LONG " + reach + " from left of the first column", x.state(1, 4), reach - 1);
            Due.is("not on in the row above", x.hangs(7), 0);
        }
        ChestnutSticks y = Due.tree("00;00");
        y.stick(0, 1, 3);
        Due.is("brings in a narrow one", y.brings(0, 0, 0), 2);
        Due.is("brings at its last column", y.brings(0, 9, 0), 1);
    }

    private static void upThereStill() {
        Due.sentence("balls that are up there still", 14, 17);
        ChestnutSticks x = Due.tree("00");
        x.toss(0, 0, 0);
        x.toss(0, 0, 0);
        Due.is("the first brings it", x.state(1, 4), 1);
        Due.is("the second does not", x.state(2, 4), 0);
        Due.is("RIPE ones", x.state(2, 1), 1);
        Due.is("brings()", x.brings(0, 0, 0), 0);
    }

    private static void lessThanHeavy() {
        Due.sentence("and HANG by less than HEAVY come down", 14, 17);
        for (int heavy = 1; heavy <= 9; heavy++) {
            for (int hangs = 0; hangs <= 9; hangs++) {
                ChestnutSticks x = Due.tree(String.valueOf(hangs));
                x.set(1, 0);
                x.stick(0, 0, heavy);
                String of = "HEAVY " + heavy + " at " + hangs;
                int down = hangs < heavy ? 1 : 0;
                Due.is(of + ", brings", x.brings(0, 0, 0) + x.brings(0, 0, 2), down);
                x.toss(0, 0, 0);
                Due.is(of, x.state(1, 4), down);
                Due.is(of + ", up", x.hangs(0), down == 1 ? -1 : hangs);
            }
        }
    }

    private static void sticksComeDown() {
        Due.sentence("then all STICKS that lodge in one of the columns that it strikes come down, too", 14);
        for (int cell = 8; cell < 16; cell++) {
            ChestnutSticks x = Due.tree("........;........;........");
            x.stick(0, 2, 16);
            x.stick(1, 1, 2);
            x.toss(0, 0, 11);
            x.toss(0, 1, cell);
            boolean struck = cell == 10 || cell == 11;
            Due.is("lodges in 11, LONG 2 at " + cell, x.state(2, 3), struck ? 0 : 1);
        }
        ChestnutSticks all = Due.tree("....");
        for (int stick = 0; stick < 3; stick++) {
            all.stick(stick, 2, 16);
            all.toss(0, stick, stick);
        }
        all.stick(3, 1, 3);
        Due.is("three lodge", all.state(3, 3), 7);
        all.toss(0, 3, 0);
        Due.is("all come down", all.state(4, 3), 0);
        ChestnutSticks rows = Due.tree(".;.;.");
        rows.stick(0, 2, 16);
        rows.toss(0, 0, 8);
        rows.toss(0, 1, 0);
        rows.toss(0, 1, 16);
        Due.is("not by throws in other rows", rows.state(3, 3), 1);
    }

    private static void lessThanLodges() {
        Due.sentence("then a LOT of 16: less than LODGES: the STICK lodges", 14);
        for (int lot = 0; lot < 16; lot++) {
            ChestnutSticks x = Due.tree(".");
            x.seed(Lots.seedFor(ANY, lot));
            x.toss(0, 2, 0);
            for (int lodges = 0; lodges <= 16; lodges++) {
                x.stick(2, 2, lodges);
                Due.is("LOT " + lot + ", LODGES " + lodges, x.state(1, 3), lot < lodges ? 4 : 0);
            }
        }
    }

    private static void whereItWent() {
        Due.sentence("the STICK lodges in the CELL to which it went", 14, 21);
        int[] lots = {0, 8, 15};
        for (int side = -1; side <= 1; side++) {
            ChestnutSticks x = Due.tree(".....");
            x.set(0, 4);
            x.stick(0, 2, 16);
            x.stick(0, 1, 3);
            x.seed(Lots.seedFor(lots[side + 1]));
            x.toss(0, 0, 2);
            Due.is("it lodges", x.state(1, 3), 1);
            Due.is("side " + side + ", by FREES", x.frees(1, 2 + side, 0), 8);
        }
    }

    private static void ifThatIsThere() {
        Due.sentence("in the CELL to which it went, if that is there", 14);
        lodging("..;..;..", 8, 0, 0);
        lodging("..;..;..", 8, 15, 1);
        lodging("..;..;..", 9, 15, 0);
        lodging("..;..;..", 9, 0, 1);
        lodging("........;........;........", 8, 0, 0);
        lodging("........;........;........", 15, 15, 0);
        lodging("........;........;........", 15, 0, 1);
    }

    private static void lodging(String text, int cell, int lot, int bits) {
        ChestnutSticks x = Due.tree(text);
        x.set(0, 1);
        x.stick(0, 2, 16);
        x.seed(Lots.seedFor(lot));
        x.toss(0, 0, cell);
        Due.is("at " + cell + " by LOT " + lot, x.state(1, 3), bits);
        x.toss(0, 0, cell);
        Due.is("thrown again at " + cell, x.judged(), bits == 1 ? 1 : -1);
    }

    private static void aStickThatLodges() {
        Due.sentence("With a STICK that lodges it is not done.", 13, 14);
        int seed = Lots.seedFor(8, 15, 0, 15);
        ChestnutSticks x = Due.tree("000");
        x.set(0, 1);
        x.stick(0, 2, 16);
        x.seed(seed);
        x.toss(0, 0, 1);
        x.toss(0, 0, 1);
        Due.is("judged()", x.judged(), 1);
        Due.is("count(4)", x.count(4), 1);
        Due.is("it brings none", x.state(2, 4), 0);
        Due.is("it lodges on", x.state(2, 3), 1);
        x.toss(0, 1, 1);
        Due.is("it took no LOT: the third goes left", x.hangs(0), -1);
    }

    private static void oneAfterTheOther() {
        Due.sentence("then the balls; then all STICKS that lodge", 14);
        ChestnutSticks x = Due.tree("00");
        x.stick(0, 2, 16);
        x.stick(1, 2, 16);
        x.toss(0, 0, 0);
        x.toss(0, 1, 0);
        Due.is("one frees, then lodges there itself", x.state(2, 3), 2);
        x.toss(0, 0, 0);
        Due.is("the freed one is thrown again", x.judged(), -1);
        Due.is("and lodges instead", x.state(3, 3), 1);
    }

    private static void judged() {
        Due.sentence("JUDGED: the first that is not done; NONE.", 13);
        ChestnutSticks x = Due.tree("0");
        Due.is("without THROWS", x.judged(), -1);
        x.toss(0, 0, 0);
        Due.is("all done", x.judged(), -1);
        x.toss(0, 0, 1);
        x.toss(0, 0, 0);
        x.toss(0, 0, 2);
        Due.is("the first of two", x.judged(), 1);
        x.back();
        x.back();
        x.back();
        Due.is("behind back()", x.judged(), -1);
        Due.write(x, "0;");
        Due.is("the very first", x.judged(), 0);
    }

    private static void intsThatWrap() {
        Due.sentence("as ints that wrap; its upper 16 bits as a number from 0 on, modulo m", 8, 14);
        int[] seeds = {0, 1, 2, 3, -1, -2, 65535, 65536, -65536, 0x7fffffff, 0x80000000, 0x80000001, 0x40000000, 123456789};
        for (int seed : seeds) {
            int[] lots = Lots.of(seed, 8);
            ChestnutSticks x = Due.tree(".");
            x.seed(seed);
            for (int i = 0; i < 4; i++) {
                x.toss(0, i, 0);
            }
            for (int i = 0; i < 4; i++) {
                for (int lodges = 0; lodges <= 16; lodges++) {
                    x.stick(i, 2, lodges);
                    int bits = lots[2 * i + 1] < lodges ? 1 << i : 0;
                    Due.is("SEED " + seed + ", THROW " + i + ", LODGES " + lodges, x.state(i + 1, 3), bits);
                }
                x.stick(i, 2, 0);
            }
        }
        // by SEED -2 the next is -2207018145 as a long, 2087949151 as an int that wraps: upper bits 31859, LOT 3
        ChestnutSticks y = Due.tree("000");
        y.toss(0, 0, 1);
        y.seed(-2);
        y.set(0, 3);
        Due.is("SEED -2, SLIP 3", y.hangs(1), -1);
        y.set(0, 4);
        Due.is("SEED -2, SLIP 4", y.hangs(0), -1);
        y.seed(-1);
        // -1103502900 as an int: its upper 16 bits are 48697 from 0 on, LOT 9
        y.set(0, 6);
        Due.is("SEED -1, SLIP 6", y.hangs(1), -1);
        y.set(0, 7);
        Due.is("SEED -1, SLIP 7", y.hangs(2), -1);
    }

    private static void theThrowers() {
        Due.sentence("a RIPE ball that comes down is the thrower's (0)", 16);
        for (int kid = 0; kid < 4; kid++) {
            ChestnutSticks x = Due.tree("00000000");
            x.stands((kid + 1) % 4, 7);
            x.toss(kid, 0, 7);
            for (int other = 0; other < 4; other++) {
                Due.is("KID " + kid + " threw, has(" + other + ")", x.has(other), kid == other ? 1 : 0);
            }
        }
    }

    private static void theNearest() {
        Due.sentence("or of the KID who stands nearest to its column (1; of like ones the least)", 16);
        ChestnutSticks x = Due.tree("00000000");
        x.set(3, 1);
        x.toss(3, 0, 7);
        Due.is("all at column 0: KID 0", x.has(0), 1);
        x.stands(2, 6);
        x.stands(1, 6);
        Due.is("two at column 6: KID 1", x.has(1), 1);
        x.stands(3, 7);
        Due.is("at column 7 itself: KID 3", x.has(3), 1);
        ChestnutSticks y = Due.tree("00000000");
        y.set(3, 1);
        y.toss(2, 0, 3);
        y.stands(0, 7);
        y.stands(1, 7);
        y.stands(2, 5);
        y.stands(3, 1);
        Due.is("as far left as right: the least, KID 2", y.has(2), 1);
        y.stands(3, 2);
        Due.is("nearer from the left: KID 3", y.has(3), 1);
        y.stands(2, 3);
        Due.is("nearer still: KID 2", y.has(2), 1);
        ChestnutSticks z = Due.tree("000");
        z.set(3, 1);
        z.stick(0, 1, 3);
        z.stands(1, 2);
        z.toss(3, 0, 0);
        Due.is("each by its own column, KID 0 two", z.has(0), 2);
        Due.is("each by its own column, KID 1 one", z.has(1), 1);
    }

    private static void wasted() {
        Due.sentence("GREEN ones are wasted.", 16);
        ChestnutSticks x = Due.tree("23");
        x.set(1, 0);
        x.stick(0, 0, 9);
        x.stick(0, 1, 2);
        x.toss(0, 0, 0);
        Due.is("LAW 0", x.has(0), 1);
        x.set(3, 1);
        Due.is("LAW 1", x.has(0), 1);
        Due.is("both came down", x.state(1, 4), 2);
    }

    private static void behindK() {
        Due.sentence("Behind k THROWS (0 to all)", 14);
        ChestnutSticks x = Due.tree("00000");
        Due.is("state(0, 0) without THROWS", x.state(0, 0), 5);
        Due.is("state(1, 0) without THROWS", x.state(1, 0), -2);
        Due.is("state(-1, 0)", x.state(-1, 0), -2);
        for (int i = 0; i < 20; i++) {
            x.toss(0, 0, i % 5);
        }
        for (int k = 0; k <= 20; k++) {
            Due.is("state(" + k + ", 0)", x.state(k, 0), Math.max(0, 5 - k));
            Due.is("state(" + k + ", 1)", x.state(k, 1), Math.min(5, k));
        }
        Due.is("state(21, 0)", x.state(21, 0), -2);
        Due.is("state(least, 0)", x.state(Integer.MIN_VALUE, 0), -2);
        Due.is("state(greatest, 0)", x.state(Integer.MAX_VALUE, 0), -2);
        x.back();
        Due.is("state(20, 0) behind back()", x.state(20, 0), -2);
    }

    private static void stateWhats() {
        Due.sentence("STICKS that lodge (3, bits), balls of the last (4; 0 behind none). BAD.", 14);
        ChestnutSticks x = Due.tree("....");
        Due.is("what -1", x.state(0, -1), -2);
        Due.is("what 5", x.state(0, 5), -2);
        Due.is("what, the least int", x.state(0, Integer.MIN_VALUE), -2);
        for (int stick = 0; stick < 4; stick++) {
            x.stick(stick, 2, 16);
            x.toss(0, stick, stick);
            Due.is("bits behind " + (stick + 1), x.state(stick + 1, 3), (2 << stick) - 1);
        }
        Due.is("bits behind none", x.state(0, 3), 0);
    }

    private static void theLast() {
        Due.sentence("how many balls the last of them brought (k 1 on)", 14);
        ChestnutSticks x = Due.tree("0002");
        x.stick(0, 1, 3);
        x.toss(0, 0, 0);
        x.toss(0, 0, 1);
        x.toss(0, 0, 47);
        int[] due = {0, 3, 1, 0};
        for (int k = 0; k < due.length; k++) {
            Due.is("state(" + k + ", 4)", x.state(k, 4), due[k]);
        }
        ChestnutSticks green = Due.tree("9");
        green.stick(0, 0, 9);
        green.toss(0, 0, 0);
        Due.is("GREEN ones count, too", green.state(1, 4), 1);
    }

    private static void noneUp() {
        Due.sentence("NONE: there is none up. BAD: no such CELL.", 15);
        ChestnutSticks x = Due.tree(".0");
        Due.is("no ball", x.hangs(0), -1);
        Due.is("a ball", x.hangs(1), 0);
        x.toss(0, 0, 1);
        Due.is("it is down", x.hangs(1), -1);
        Due.is("the next column", x.hangs(2), -2);
        Due.is("the next row", x.hangs(8), -2);
        Due.is("hangs(-1)", x.hangs(-1), -2);
        Due.is("hangs(48)", x.hangs(48), -2);
        Due.is("hangs(least)", x.hangs(Integer.MIN_VALUE), -2);
    }

    private static void has() {
        Due.sentence("HAS of a KID: RIPE balls behind all THROWS.", 16);
        ChestnutSticks x = Due.tree("0000");
        Due.is("has(0) without THROWS", x.has(0), 0);
        Due.is("has(-1)", x.has(-1), -2);
        Due.is("has(4)", x.has(4), -2);
        Due.is("has(least)", x.has(Integer.MIN_VALUE), -2);
        for (int i = 0; i < 4; i++) {
            x.toss(3, 0, i);
            Due.is("has(3) behind " + (i + 1), x.has(3), i + 1);
        }
        x.back();
        Due.is("has(3) behind back()", x.has(3), 3);
    }
}
