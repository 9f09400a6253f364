/** Boundary cases of what a throw brings: promises 17 to 21. */
final class EdgesOfWhere {
    private static final long LONG_BAD = Long.MIN_VALUE + 2;

    private EdgesOfWhere() {
    }

    static void run() {
        lowestTerms();
        whetherItLodges();
        behindAllThrows();
        bringsRefuses();
        worth();
        worthRefuses();
        where();
        noCells();
        which();
        whichNone();
        frees();
        freesRefuses();
    }

    private static void fraction(ChestnutSticks x, String of, int cell, int first, long above, long below) {
        Due.is(of + ", above", x.brings(0, cell, first), above);
        Due.is(of + ", below", x.brings(0, cell, first + 1), below);
    }

    private static void lowestTerms() {
        Due.sentence("FRACTIONS are told in lowest terms, above and below (0 by 1).", 17);
        ChestnutSticks x = Due.tree("000.5");
        x.set(1, 0);
        fraction(x, "no ball", 3, 0, 0, 1);
        fraction(x, "no GREEN ball", 0, 2, 0, 1);
        fraction(x, "one ball, surely", 0, 0, 1, 1);
        x.stick(0, 1, 3);
        fraction(x, "three balls, surely", 0, 0, 3, 1);
        x.stick(0, 1, 1);
        int[][] besideIt = {{1, 16}, {1, 8}, {3, 16}, {1, 4}, {5, 16}, {3, 8}, {7, 16}, {1, 2}};
        int[][] atGreen = {{7, 8}, {3, 4}, {5, 8}, {1, 2}, {3, 8}, {1, 4}, {1, 8}, {0, 1}};
        x.stick(0, 0, 9);
        for (int slip = 1; slip <= 8; slip++) {
            x.set(0, slip);
            fraction(x, "beside it by SLIP " + slip, 3, 0, besideIt[slip - 1][0], besideIt[slip - 1][1]);
            fraction(x, "GREEN at it by SLIP " + slip, 4, 2, atGreen[slip - 1][0], atGreen[slip - 1][1]);
        }
    }

    private static void whetherItLodges() {
        Due.sentence("(whether it lodges or not)", 17, 18, 19);
        ChestnutSticks x = Due.tree(".0");
        x.stick(0, 2, 16);
        fraction(x, "LODGES 16", 1, 0, 1, 1);
        x.toss(0, 0, 0);
        Due.is("it lodges", x.state(1, 3), 1);
        fraction(x, "though it lodges", 1, 0, 1, 1);
        Due.is("worth(0, 1) though it lodges", x.worth(0, 1), 16);
        Due.is("where(0) though it lodges", x.where(0), 1);
    }

    private static void behindAllThrows() {
        Due.sentence("Behind all THROWS: BRINGS of a STICK at a CELL", 17, 18, 19, 20);
        ChestnutSticks x = Due.tree("01");
        x.set(1, 0);
        Due.is("where(0) behind none", x.where(0), 0);
        x.toss(0, 0, 0);
        fraction(x, "the ball is down", 0, 0, 0, 1);
        Due.is("worth(0, 0)", x.worth(0, 0), 0);
        Due.is("where(0)", x.where(0), 1);
        x.toss(0, 0, 1);
        Due.is("where(0), all are down", x.where(0), 0);
        Due.is("which(), all are down", x.which(), 0);
        x.back();
        Due.is("where(0) behind back()", x.where(0), 1);
    }

    private static void bringsRefuses() {
        Due.sentence("of GREEN ones (2, 3). BAD. (As the least long.)", 17);
        ChestnutSticks x = Due.tree("0.");
        Due.is("what 3", x.brings(0, 0, 3), 1);
        Due.is("what 4", x.brings(0, 0, 4), LONG_BAD);
        Due.is("what -1", x.brings(0, 0, -1), LONG_BAD);
        Due.is("STICK -1", x.brings(-1, 0, 0), LONG_BAD);
        Due.is("STICK 3", x.brings(3, 0, 0), 1);
        Due.is("STICK 4", x.brings(4, 0, 0), LONG_BAD);
        Due.is("CELL 1, which is there", x.brings(0, 1, 1), 1);
        Due.is("CELL 2, which is not", x.brings(0, 2, 1), LONG_BAD);
        Due.is("CELL -1", x.brings(0, -1, 0), LONG_BAD);
        Due.is("CELL 48", x.brings(0, 48, 0), LONG_BAD);
    }

    private static void worth() {
        Due.sentence("16 times the mean of RIPE less PRICE times GREEN.", 18);
        ChestnutSticks x = Due.tree("222;333;23.;...");
        x.set(1, 0);
        x.stick(0, 0, 9);
        x.stick(0, 1, 3);
        int[] prices = {0, 1, 9};
        for (int price : prices) {
            x.set(2, price);
            Due.is("three RIPE, PRICE " + price, x.worth(0, 0), 48);
            Due.is("three GREEN, PRICE " + price, x.worth(0, 8), -48 * price);
            Due.is("one of each, PRICE " + price, x.worth(0, 16), 16 - 16 * price);
            Due.is("none, PRICE " + price, x.worth(0, 24), 0);
        }
        x.set(2, 9);
        x.set(0, 1);
        // from left of it and from it on: the 2 and the 3; from right of it on: the 3 alone
        Due.is("by sixteenths", x.worth(0, 16), 15 * (1 - 9) - 9);
    }

    private static void worthRefuses() {
        Due.sentence("WORTH, as any number. BAD: -1000002.", 18);
        ChestnutSticks x = Due.tree("9");
        Due.is("STICK -1", x.worth(-1, 0), -1000002);
        Due.is("STICK 4", x.worth(4, 0), -1000002);
        Due.is("CELL -1", x.worth(0, -1), -1000002);
        Due.is("CELL 1, which is not there", x.worth(0, 1), -1000002);
        Due.is("CELL 48", x.worth(0, 48), -1000002);
        x.set(1, 0);
        x.set(2, 2);
        x.stick(0, 0, 9);
        Due.write(x, "8");
        Due.is("-32 is no refusal", x.worth(0, 0), -32);
        Due.write(x, "84");
        x.set(0, 1);
        Due.is("nor is any other", x.worth(0, 0), -30);
    }

    private static void where() {
        Due.sentence("the CELL with the greatest WORTH, of like ones the least", 19);
        ChestnutSticks x = Due.tree("...;.0.;..0;0..");
        Due.is("three alike", x.where(0), 9);
        Due.is("none anywhere", Due.tree("..;..").where(0), 0);
        ChestnutSticks last = Due.tree("........;........;........;........;........;.......0");
        Due.is("the last of all", last.where(3), 47);
        ChestnutSticks green = Due.tree("33;.3");
        green.set(1, 0);
        green.stick(0, 0, 9);
        Due.is("0 is more than less than 0", green.where(0), 8);
        Due.write(green, "333;333");
        green.stick(0, 1, 2);
        Due.is("the greatest below 0", green.where(0), 2);
        green.set(2, 0);
        Due.is("all alike at PRICE 0", green.where(0), 0);
    }

    private static void noCells() {
        Due.sentence("WHERE; NONE: there are no CELLS. BAD.", 19);
        ChestnutSticks x = new ChestnutSticks();
        Due.is("no TREE", x.where(0), -1);
        Due.is("no TREE, STICK 3", x.where(3), -1);
        Due.is("no TREE, STICK 4", x.where(4), -2);
        Due.is("no TREE, STICK -1", x.where(-1), -2);
        x.type('.');
        Due.is("one CELL", x.where(0), 0);
        Due.is("one CELL, STICK 4", x.where(4), -2);
        x.type(';');
        Due.is("a FAULT", x.where(0), -1);
    }

    private static void which() {
        Due.sentence("the STICK (that does not lodge) with the greatest WORTH anywhere, of like ones the least", 20);
        ChestnutSticks x = Due.tree("000.");
        Due.is("all alike", x.which(), 0);
        x.stick(1, 1, 2);
        x.stick(2, 1, 2);
        Due.is("two alike", x.which(), 1);
        x.stick(3, 1, 3);
        Due.is("the last of them", x.which(), 3);
        x.stick(3, 2, 16);
        x.toss(0, 3, 3);
        Due.is("it lodges", x.which(), 1);
        x.toss(0, 0, 3);
        Due.is("it does no more", x.which(), 3);
        ChestnutSticks green = Due.tree("333");
        green.set(1, 0);
        for (int stick = 0; stick < 4; stick++) {
            green.stick(stick, 0, 9);
            green.stick(stick, 1, stick == 2 ? 1 : 3);
        }
        green.set(0, 8);
        // at best a LONG one brings two by 8 sixteenths, the other one ball by 8 sixteenths
        Due.is("the greatest below 0", green.which(), 2);
    }

    private static void whichNone() {
        Due.sentence("WHICH; NONE.", 20);
        Due.is("no CELLS", new ChestnutSticks().which(), -1);
        ChestnutSticks x = Due.tree("....");
        for (int stick = 0; stick < 4; stick++) {
            x.stick(stick, 2, 16);
            Due.is(stick + " lodge", x.which(), stick);
            x.toss(0, stick, stick);
        }
        Due.is("all lodge", x.which(), -1);
        x.back();
        Due.is("one is free again", x.which(), 3);
    }

    private static void frees() {
        Due.sentence("FREES: by how many sixteenths a throw strikes where a STICK lodges.", 21);
        ChestnutSticks x = Due.tree("........;........;........");
        x.stick(3, 2, 16);
        x.toss(0, 3, 11);
        int[] short0 = {0, 0, 0, 16, 0, 0, 0, 0};
        int[] long0 = {0, 16, 16, 16, 0, 0, 0, 0};
        row(x, "SLIP 0", 1, short0);
        row(x, "SLIP 0", 3, long0);
        // it is to lodge in 11 by any SLIP
        x.seed(Lots.seedFor(8));
        x.set(0, 5);
        row(x, "SLIP 5", 1, new int[] {0, 0, 5, 6, 5, 0, 0, 0});
        row(x, "SLIP 5", 3, new int[] {5, 11, 16, 11, 5, 0, 0, 0});
        x.set(0, 8);
        x.seed(Lots.seedFor(0));
        x.back();
        x.toss(0, 3, 12);
        row(x, "SLIP 8", 1, new int[] {0, 0, 8, 0, 8, 0, 0, 0});
        row(x, "SLIP 8", 2, new int[] {0, 8, 8, 8, 8, 0, 0, 0});
        Due.is("the row above", x.frees(0, 3, 3), 0);
        Due.is("the row below", x.frees(0, 19, 3), 0);
        ChestnutSticks first = Due.tree("...");
        first.stick(1, 2, 16);
        first.toss(0, 1, 0);
        first.stick(0, 1, 3);
        first.set(0, 4);
        first.seed(Lots.seedFor(8));
        Due.is("from left of the first column on", first.frees(0, 0, 1), 12);
    }

    private static void row(ChestnutSticks x, String slip, int reach, int[] due) {
        x.stick(0, 1, reach);
        for (int column = 0; column < 8; column++) {
            Due.is(slip + ", LONG " + reach + ", column " + column, x.frees(0, 8 + column, 3), due[column]);
        }
    }

    private static void freesRefuses() {
        Due.sentence("of another STICK (that lodges, else NOT). BAD.", 21);
        ChestnutSticks x = Due.tree("..");
        x.stick(1, 2, 16);
        Due.is("it does not lodge", x.frees(0, 0, 1), -3);
        x.toss(0, 1, 0);
        Due.is("it lodges", x.frees(0, 0, 1), 16);
        Due.is("it lodges, not struck", x.frees(0, 1, 1), 0);
        Due.is("another does not", x.frees(0, 0, 2), -3);
        Due.is("no CELL, and it does not lodge", x.frees(0, 2, 2), -2);
        Due.is("no STICK, and it does not lodge", x.frees(4, 0, 2), -2);
        Due.is("STICK -1", x.frees(-1, 0, 1), -2);
        Due.is("CELL -1", x.frees(0, -1, 1), -2);
        Due.is("CELL 48", x.frees(0, 48, 1), -2);
        Due.is("another -1", x.frees(0, 0, -1), -2);
        Due.is("another 4", x.frees(0, 0, 4), -2);
        x.toss(0, 0, 0);
        Due.is("it came down", x.frees(0, 0, 1), -3);
    }
}
