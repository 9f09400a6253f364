/** Promises 17 to 21: brings, worth, where, which, frees. */
public final class WhereTest {
    private static final long LONG_BAD = Long.MIN_VALUE + 2;

    public static void main(String[] args) {
        brings();
        worth();
        where();
        which();
        frees();
        Due.end("WhereTest");
    }

    private static void fraction(ChestnutSticks x, int stick, int cell, int first, long above, long below) {
        String call = "17: brings(" + stick + ", " + cell + ", " + first + ")";
        Due.is(call, x.brings(stick, cell, first), above);
        Due.is(call + " below", x.brings(stick, cell, first + 1), below);
    }

    private static void brings() {
        ChestnutSticks edge = Due.tree("23");
        edge.set(1, 0);
        edge.stick(0, 0, 4);
        fraction(edge, 0, 0, 0, 1, 1);
        fraction(edge, 0, 0, 2, 0, 1);
        fraction(edge, 0, 1, 0, 0, 1);
        fraction(edge, 0, 1, 2, 1, 1);
        ChestnutSticks x = Due.tree("0350;....");
        x.set(1, 0);
        x.stick(0, 0, 9);
        fraction(x, 0, 0, 0, 1, 1);
        fraction(x, 0, 0, 2, 0, 1);
        fraction(x, 0, 1, 0, 0, 1);
        fraction(x, 0, 1, 2, 1, 1);
        x.set(0, 3);
        fraction(x, 0, 0, 0, 5, 8);
        fraction(x, 0, 0, 2, 3, 16);
        fraction(x, 0, 3, 0, 5, 8);
        fraction(x, 0, 9, 0, 0, 1);
        x.stick(0, 1, 2);
        // left of column 0: 0 alone; at it: 0 and 3; right of it: 3 and 5
        fraction(x, 0, 0, 0, 13, 16);
        fraction(x, 0, 0, 2, 1, 1);
        x.stick(0, 0, 5);
        fraction(x, 0, 0, 2, 13, 16);
        x.stick(0, 2, 16);
        x.set(0, 0);
        x.toss(0, 0, 0);
        fraction(x, 0, 0, 0, 0, 1);
        fraction(x, 0, 3, 0, 1, 1);
        Due.is("17: it lodges meanwhile", x.state(1, 3), 1);
        Due.is("17: no stick", x.brings(-1, 0, 0), LONG_BAD);
        Due.is("17: no stick", x.brings(4, 0, 0), LONG_BAD);
        Due.is("17: no such cell", x.brings(0, 4, 0), LONG_BAD);
        Due.is("17: no cell", x.brings(0, 48, 0), LONG_BAD);
        Due.is("17: no cell", x.brings(0, -1, 0), LONG_BAD);
        Due.is("17: no what", x.brings(0, 0, 4), LONG_BAD);
        Due.is("17: no what", x.brings(0, 0, -1), LONG_BAD);
    }

    private static void worth() {
        ChestnutSticks x = Due.tree("0930");
        x.set(1, 0);
        x.stick(0, 0, 9);
        x.stick(0, 1, 3);
        Due.is("18: ripe less green", x.worth(0, 0), 0);
        x.set(2, 0);
        Due.is("18: no price", x.worth(0, 0), 16);
        x.set(2, 9);
        Due.is("18: below 0", x.worth(0, 0), 16 - 9 * 16);
        x.set(0, 5);
        // left: column 0 and the 9, which stays; at it: 0 and 3; right: 3 and 0
        Due.is("18: by sixteenths", x.worth(0, 0), 5 * 1 + 6 * (1 - 9) + 5 * (1 - 9));
        Due.is("18: no cell", x.worth(0, 4), -1000002);
        Due.is("18: no stick", x.worth(4, 0), -1000002);
        Due.is("18: no stick", x.worth(-1, 0), -1000002);
        Due.is("18: no cell", x.worth(0, -1), -1000002);
    }

    private static void where() {
        ChestnutSticks x = Due.tree("3.3;.00;000");
        x.set(1, 0);
        Due.is("19: of like ones the least", x.where(0), 9);
        x.stick(0, 1, 2);
        Due.is("19: the greatest", x.where(0), 9);
        x.stick(0, 1, 3);
        Due.is("19: the greatest", x.where(0), 16);
        x.toss(0, 0, 16);
        Due.is("19: behind all throws", x.where(0), 8);
        x.toss(0, 0, 8);
        Due.is("19: all alike", x.where(0), 0);
        x.stick(1, 0, 9);
        Due.is("19: all at 0 or below", x.where(1), 1);
        Due.write(x, "3");
        Due.is("19: below 0 alone", x.where(1), 0);
        x.wipe();
        Due.is("19: no cells", x.where(0), -1);
        Due.is("19: BAD ahead of NONE", x.where(4), -2);
        Due.is("19: BAD", x.where(-1), -2);
    }

    private static void which() {
        ChestnutSticks x = Due.tree("0005");
        x.set(1, 0);
        Due.is("20: all alike", x.which(), 0);
        x.stick(2, 1, 2);
        x.stick(3, 1, 3);
        Due.is("20: the longest", x.which(), 3);
        x.stick(3, 2, 16);
        x.toss(0, 3, 3);
        Due.is("20: it lodges", x.which(), 2);
        x.stick(0, 2, 16);
        x.stick(1, 2, 16);
        x.stick(2, 2, 16);
        x.toss(0, 0, 0);
        x.toss(0, 2, 1);
        Due.is("20: one is left, for which there is nothing", x.which(), 1);
        x.toss(0, 1, 1);
        Due.is("20: freed by it", x.state(4, 3), 3 + 8);
        Due.is("20: the one that was freed", x.which(), 2);
        x.toss(0, 2, 3);
        Due.is("20: freed in turn", x.which(), 3);
        ChestnutSticks y = Due.tree("....");
        for (int stick = 0; stick < 4; stick++) {
            y.stick(stick, 2, 16);
            y.toss(0, stick, stick);
        }
        Due.is("20: all lodge", y.which(), -1);
        Due.is("20: where() does not ask that", y.where(0), 0);
        Due.is("20: no cells", new ChestnutSticks().which(), -1);
        ChestnutSticks z = Due.tree("333");
        z.set(1, 0);
        z.stick(0, 0, 9);
        z.stick(1, 0, 9);
        z.stick(0, 1, 2);
        z.stick(2, 0, 9);
        z.stick(3, 0, 9);
        Due.is("20: the greatest below 0", z.which(), 0);
        z.set(0, 8);
        z.stick(0, 1, 3);
        Due.is("20: slips count", z.which(), 1);
    }

    private static void frees() {
        ChestnutSticks x = Due.tree("....;....");
        x.stick(1, 2, 16);
        x.toss(0, 1, 10);
        x.set(0, 0);
        Due.is("21: strikes it", x.frees(0, 10, 1), 16);
        Due.is("21: beside it", x.frees(0, 9, 1), 0);
        x.seed(3);
        x.set(0, 5);
        int went = x.frees(0, 10, 1) == 6 ? 10 : x.frees(0, 9, 1) == 6 ? 9 : 11;
        Due.is("21: at it", x.frees(0, went, 1), 6);
        Due.is("21: left of it", x.frees(0, went - 1, 1), 5);
        x.stick(0, 1, 3);
        Due.is("21: long, left of it", x.frees(0, went - 1, 1), 16);
        Due.is("21: long, at it", x.frees(0, went, 1), 11);
        Due.is("21: another row", x.frees(0, went - 8, 1), 0);
        Due.is("21: does not lodge", x.frees(0, 10, 2), -3);
        Due.is("21: does not lodge itself", x.frees(0, 10, 0), -3);
        Due.is("21: no cell, ahead of NOT", x.frees(0, 12, 2), -2);
        Due.is("21: no stick", x.frees(4, 10, 1), -2);
        Due.is("21: no stick", x.frees(-1, 10, 1), -2);
        Due.is("21: no other", x.frees(0, 10, 4), -2);
        Due.is("21: no other", x.frees(0, 10, -1), -2);
        Due.is("21: no cell", x.frees(0, 48, 1), -2);
    }
}
