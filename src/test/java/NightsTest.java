/** Promises 22 to 25: lie, ripe, rests, ends. */
public final class NightsTest {
    private static final long LONG_BAD = Long.MIN_VALUE + 2;

    public static void main(String[] args) {
        lie();
        ripe();
        rests();
        ends();
        Due.end("NightsTest");
    }

    private static void fraction(ChestnutSticks x, int day, long above, long below) {
        Due.is("22: lie(" + day + ", 0)", x.lie(day, 0), above);
        Due.is("22: lie(" + day + ", 1)", x.lie(day, 1), below);
    }

    private static void lie() {
        ChestnutSticks x = Due.tree("45.;9.6");
        fraction(x, 0, 0, 1);
        // the 4 in each night by 4 sixteenths
        fraction(x, 1, 1, 4);
        fraction(x, 2, 7, 16);
        fraction(x, 3, 37, 64);
        // the 5 from night 3 on
        fraction(x, 4, 256 - 81 + 64, 256);
        x.set(4, 4);
        fraction(x, 3, 0, 1);
        fraction(x, 4, 1, 4);
        x.set(4, 0);
        fraction(x, 12, 0, 1);
        x.set(4, 9);
        x.set(5, 16);
        fraction(x, 1, 3, 1);
        fraction(x, 3, 3, 1);
        fraction(x, 4, 4, 1);
        x.set(5, 0);
        fraction(x, 12, 0, 1);
        x.set(5, 8);
        fraction(x, 1, 3, 2);
        x.set(1, 0);
        x.toss(0, 0, 0);
        x.stick(0, 0, 9);
        Due.is("22: a throw brings it down", x.state(1, 0), 3);
        fraction(x, 1, 3, 2);
        x.set(5, 1);
        long all = 1L << 48;
        long stay = 1;
        for (int i = 0; i < 12; i++) {
            stay *= 15;
        }
        // three of them in 12 nights, the 9 in 9
        long nine = stay / 3375 * 4096;
        fraction(x, 12, 4 * all - 3 * stay - nine, all);
        Due.is("22: below 0", x.lie(-1, 0), LONG_BAD);
        Due.is("22: above 12", x.lie(13, 0), LONG_BAD);
        Due.is("22: no what", x.lie(0, 2), LONG_BAD);
        Due.is("22: no what", x.lie(0, -1), LONG_BAD);
    }

    private static void ripe() {
        ChestnutSticks x = Due.tree("02359.");
        int[][] want = {{0, 2}, {2, 2}, {3, 3}, {8, 3}, {9, 4}, {20, 4}, {21, 5}, {29, 5}};
        for (int[] row : want) {
            Due.is("23: ripe(" + row[0] + ")", x.ripe(row[0]), row[1]);
        }
        x.toss(0, 0, 0);
        Due.is("23: as it is told", x.ripe(0), 2);
        Due.is("23: below", x.ripe(-1), -2);
        Due.is("23: above", x.ripe(30), -2);
        x.type('x');
        Due.is("23: with a FAULT", x.ripe(29), 0);
    }

    private static void rests() {
        ChestnutSticks x = Due.tree("23344...");
        // 1 from 0 on, 3 from 3 on, 5 from 6 on
        Due.is("24: rests(2)", x.rests(2), 1 | 1 << 3);
        Due.is("24: rests(3), as much is no more", x.rests(3), 1 | 1 << 3);
        Due.is("24: rests(4)", x.rests(4), 1);
        ChestnutSticks y = Due.tree("5");
        Due.is("24: none ripe rests", y.rests(6), (1 << 10) - 1);
        Due.is("24: below", x.rests(1), -2);
        Due.is("24: above", x.rests(7), -2);
    }

    private static void ends() {
        ChestnutSticks x = Due.tree("23344...");
        int[][] want = {{2, 3, 3}, {3, 3, 3}, {4, 0, 1}, {6, 0, 1}};
        for (int[] row : want) {
            Due.is("25: ends(" + row[0] + ", 0)", x.ends(row[0], 0), row[1]);
            Due.is("25: ends(" + row[0] + ", 1)", x.ends(row[0], 1), row[2]);
        }
        ChestnutSticks y = Due.tree("9");
        Due.is("25: the first with the greatest is a rest", y.ends(6, 0), 21);
        Due.is("25: V there", y.ends(6, 1), 1);
        ChestnutSticks z = Due.tree("3;.");
        Due.is("25: the first of the greatest", z.ends(2, 0), 3);
        Due.is("25: no tree", new ChestnutSticks().ends(2, 0), 0);
        Due.is("25: no tree", new ChestnutSticks().ends(2, 1), 0);
        Due.is("25: below", x.ends(1, 0), -2);
        Due.is("25: above", x.ends(7, 0), -2);
        Due.is("25: no what", x.ends(2, 2), -2);
        Due.is("25: no what", x.ends(2, -1), -2);
    }
}
