/** Promises 11 to 16: toss, back, judged, state, hangs, has. */
public final class ThrowsTest {
    public static void main(String[] args) {
        tossAndBack();
        judged();
        ballsComeDown();
        daysAndRipeness();
        slips();
        lodging();
        lodgesByRow();
        theFirstSeed();
        lotsAreTakenInOrder();
        laws();
        Due.end("ThrowsTest");
    }

    private static void tossAndBack() {
        ChestnutSticks x = new ChestnutSticks();
        Due.is("11: no kid", x.toss(-1, 0, 0), -2);
        Due.is("11: no kid", x.toss(4, 0, 0), -2);
        Due.is("11: no stick", x.toss(0, -1, 0), -2);
        Due.is("11: no stick", x.toss(0, 4, 0), -2);
        Due.is("11: no cell", x.toss(0, 0, -1), -2);
        Due.is("11: no cell", x.toss(0, 0, 48), -2);
        Due.is("12: none", x.back(), -3);
        for (int i = 1; i <= 20; i++) {
            Due.is("11: toss", x.toss(i % 4, i % 4, 47), i);
        }
        Due.is("11: FULL", x.toss(0, 0, 0), -4);
        Due.is("11: BAD ahead of FULL", x.toss(0, 0, 48), -2);
        Due.is("39: THROWS", x.count(3), 20);
        for (int i = 19; i >= 0; i--) {
            Due.is("12: back", x.back(), i);
        }
        Due.is("12: NOT", x.back(), -3);
        Due.is("39: THROWS", x.count(3), 0);
    }

    private static void judged() {
        ChestnutSticks x = Due.tree("12");
        Due.is("13: without throws", x.judged(), -1);
        x.toss(0, 0, 1);
        Due.is("13: done", x.judged(), -1);
        x.toss(0, 0, 2);
        x.toss(0, 0, 8);
        Due.is("13: the first", x.judged(), 1);
        Due.is("39: done", x.count(4), 1);
        x.wipe();
        Due.is("13: no tree any more", x.judged(), 0);
        Due.is("39: done without a tree", x.count(4), 0);
        Due.write(x, "123;456");
        Due.is("13: all done now", x.judged(), -1);
        Due.is("39: done now", x.count(4), 3);
        x.type('7');
        Due.is("13: with a FAULT", x.judged(), 0);
    }

    private static void ballsComeDown() {
        ChestnutSticks x = Due.tree("23456789;9.9.9.9.");
        x.set(1, 0);
        x.stick(0, 1, 3);
        x.stick(0, 0, 6);
        Due.is("14: up at first", x.state(0, 0), 12);
        Due.is("14: the last of none", x.state(0, 4), 0);
        Due.is("15: hangs", x.hangs(3), 5);
        x.toss(1, 0, 2);
        Due.is("14: up", x.state(1, 0), 10);
        Due.is("14: ripe", x.state(1, 1), 0);
        Due.is("14: green", x.state(1, 2), 2);
        Due.is("14: the last", x.state(1, 4), 2);
        Due.is("15: down", x.hangs(3), -1);
        Due.is("15: hangs by HEAVY, stays", x.hangs(4), 6);
        x.toss(1, 0, 0);
        Due.is("14: a ball that is down does not come twice", x.state(2, 4), 2);
        Due.is("14: ripe", x.state(2, 1), 1);
        Due.is("14: green", x.state(2, 2), 3);
        Due.is("14: as it was behind the first", x.state(1, 0), 10);
        Due.is("14: as it was at first", x.state(0, 0), 12);
        Due.is("16: ripe alone", x.has(1), 1);
        x.toss(0, 0, 47);
        Due.is("14: not done brings 0", x.state(3, 4), 0);
        Due.is("14: and changes nothing", x.state(3, 0), 8);
        Due.is("14: k below 0", x.state(-1, 0), -2);
        Due.is("14: k above all", x.state(4, 0), -2);
        Due.is("14: no what", x.state(0, -1), -2);
        Due.is("14: no what", x.state(0, 5), -2);
        Due.is("15: no ball", x.hangs(9), -1);
        Due.is("15: no cell", x.hangs(16), -2);
        Due.is("15: no cell", x.hangs(-1), -2);
        Due.is("15: no cell", x.hangs(48), -2);
    }

    private static void daysAndRipeness() {
        ChestnutSticks x = Due.tree("9530");
        int[][] want = {{0, 9, 5, 3, 0}, {2, 9, 5, 3, 0}, {3, 8, 4, 2, 0}, {8, 7, 3, 1, 0}, {9, 6, 2, 0, 0}, {29, 0, 0, 0, 0}};
        for (int[] row : want) {
            x.set(1, row[0]);
            for (int cell = 0; cell < 4; cell++) {
                Due.is("15: day " + row[0] + ", cell " + cell, x.hangs(cell), row[cell + 1]);
            }
        }
        x.stick(0, 0, 9);
        x.stick(0, 1, 3);
        x.toss(2, 0, 0);
        x.toss(2, 0, 3);
        int[][] sums = {{0, 1, 2}, {3, 2, 2}, {8, 2, 2}, {9, 3, 1}, {21, 4, 0}};
        for (int[] row : sums) {
            x.set(1, row[0]);
            Due.is("14: ripe in day " + row[0], x.state(2, 1), row[1]);
            Due.is("14: green in day " + row[0], x.state(2, 2), row[2]);
            Due.is("16: has in day " + row[0], x.has(2), row[1]);
        }
    }

    /** The lots of 16 from a seed on, as the document tells them. */
    private static int[] lots(int seed, int n) {
        int[] all = new int[n];
        for (int i = 0; i < n; i++) {
            seed = 1103515245 * seed + 12345;
            all[i] = (seed >>> 16) % 16;
        }
        return all;
    }

    private static void slips() {
        ChestnutSticks x = Due.tree("000");
        x.toss(0, 0, 1);
        for (int slip = 0; slip <= 8; slip++) {
            x.set(0, slip);
            for (int seed = -20; seed < 40; seed++) {
                x.seed(seed);
                int lot = lots(seed, 1)[0];
                int went = lot < slip ? 0 : lot >= 16 - slip ? 2 : 1;
                for (int cell = 0; cell < 3; cell++) {
                    Due.is("14: slip " + slip + ", seed " + seed + ", cell " + cell, x.hangs(cell), cell == went ? -1 : 0);
                }
            }
        }
    }

    private static void lodging() {
        ChestnutSticks x = Due.tree("0000");
        x.stick(0, 2, 16);
        x.stick(3, 2, 16);
        x.toss(0, 0, 1);
        Due.is("14: lodges", x.state(1, 3), 1);
        x.toss(0, 3, 3);
        Due.is("14: both", x.state(2, 3), 9);
        x.toss(0, 0, 2);
        Due.is("13: with one that lodges", x.judged(), 2);
        Due.is("14: brings none", x.state(3, 0), 2);
        x.toss(0, 1, 0);
        Due.is("14: beside it", x.state(4, 3), 9);
        x.toss(0, 1, 1);
        Due.is("14: comes down", x.state(5, 3), 8);
        x.toss(0, 0, 2);
        Due.is("13: still the first", x.judged(), 2);
        Due.is("14: thrown again, it lodges again", x.state(6, 3), 9);
        Due.is("39: done", x.count(4), 5);
        x.stick(1, 1, 3);
        x.toss(0, 1, 1);
        Due.is("14: two come down by a long one", x.state(7, 3), 0);
        besideTheTree("0", 0);
        besideTheTree("0;0", 0);
        besideTheTree("0;0", 8);
        overTheEdge(7);
        overTheEdge(8);
    }

    /** Beside the last column is not the next row's first, nor the other way round. */
    private static void overTheEdge(int cell) {
        for (int seed = 0; seed < 30; seed++) {
            ChestnutSticks y = Due.tree("00000000;00000000");
            y.set(0, 8);
            y.stick(0, 2, 16);
            y.seed(seed);
            y.toss(0, 0, cell);
            boolean left = lots(seed, 1)[0] < 8;
            boolean there = left == (cell == 7);
            Due.is("14: over the edge, balls, seed " + seed, y.state(1, 4), there ? 1 : 0);
            Due.is("14: over the edge, lodges, seed " + seed, y.state(1, 3), there ? 1 : 0);
        }
    }

    /** One column, and each throw goes left or right of it. */
    private static void besideTheTree(String text, int cell) {
        ChestnutSticks y = Due.tree(text);
        y.set(0, 8);
        y.stick(0, 2, 16);
        y.toss(0, 0, cell);
        for (int seed = 0; seed < 30; seed++) {
            y.seed(seed);
            Due.is("14: no ball beside the tree", y.state(1, 4), 0);
            Due.is("14: it does not lodge beside the tree", y.state(1, 3), 0);
            Due.is("13: though it is done", y.judged(), -1);
        }
    }

    private static void theFirstSeed() {
        int[] lots = lots(1, 2);
        ChestnutSticks x = Due.tree("00000000");
        x.toss(0, 0, 3);
        for (int slip = 0; slip <= 8; slip++) {
            x.set(0, slip);
            int went = lots[0] < slip ? 2 : lots[0] >= 16 - slip ? 4 : 3;
            Due.is("1: SEED is 1 at first, by SLIP " + slip, x.hangs(went), -1);
        }
        for (int lodges = 0; lodges <= 16; lodges++) {
            x.stick(0, 2, lodges);
            Due.is("1: SEED is 1 at first, by LODGES " + lodges, x.state(1, 3), lots[1] < lodges ? 1 : 0);
        }
    }

    private static void lodgesByRow() {
        ChestnutSticks x = Due.tree("000;000");
        x.stick(0, 2, 16);
        x.stick(1, 1, 3);
        x.toss(0, 0, 1);
        x.toss(0, 1, 8);
        Due.is("14: a throw in another row does not free it", x.state(2, 3), 1);
        Due.is("21: nor by sixteenths", x.frees(1, 8, 0), 0);
        Due.is("21: in its own row it does", x.frees(1, 0, 0), 16);
        ChestnutSticks y = Due.tree("00000000;00000000");
        y.stick(0, 1, 3);
        y.toss(0, 0, 7);
        Due.is("14: a long one does not go on in the next row", y.state(1, 4), 1);
    }

    /** One lot for the slip, one for lodging, in each throw that is done; none in one that is not. */
    private static void lotsAreTakenInOrder() {
        for (int seed = 0; seed < 60; seed++) {
            int[] lots = lots(seed, 4);
            ChestnutSticks x = Due.tree("00;..;00");
            x.seed(seed);
            x.stick(0, 2, 8);
            x.toss(0, 1, 47);
            x.toss(0, 0, 0);
            Due.is("14: lodges by the second lot, seed " + seed, x.state(2, 3), lots[1] < 8 ? 1 : 0);
            x.stick(0, 2, 0);
            x.stick(2, 2, 8);
            x.toss(0, 2, 0);
            Due.is("14: the fourth lot, seed " + seed, x.state(3, 3), lots[3] < 8 ? 4 : 0);
            x.set(0, 8);
            x.back();
            x.toss(0, 2, 16);
            boolean there = lots[2] >= 8;
            Due.is("14: the third lot, seed " + seed, x.hangs(16), 0);
            Due.is("14: the third lot, seed " + seed, x.hangs(17), there ? -1 : 0);
            Due.is("14: where it went it lodges, seed " + seed, x.state(3, 3), there && lots[3] < 8 ? 4 : 0);
        }
    }

    private static void laws() {
        ChestnutSticks x = Due.tree("00000000");
        for (int cell = 0; cell < 8; cell++) {
            x.toss(cell % 2, 0, cell);
        }
        int[] own = {4, 4, 0, 0};
        int[] atFirst = {8, 0, 0, 0};
        int[] nearest = {3, 2, 3, 0};
        for (int kid = 0; kid < 4; kid++) {
            Due.is("16: the thrower's", x.has(kid), own[kid]);
        }
        x.set(3, 1);
        for (int kid = 0; kid < 4; kid++) {
            Due.is("16: all stand alike, the least", x.has(kid), atFirst[kid]);
        }
        x.stands(0, 1);
        x.stands(1, 7);
        x.stands(2, 4);
        x.stands(3, 4);
        // columns 0 1 2 are KID 0's, 3 4 5 KID 2's, 6 7 KID 1's
        for (int kid = 0; kid < 4; kid++) {
            Due.is("16: the nearest", x.has(kid), nearest[kid]);
        }
        x.stands(2, 5);
        x.stands(3, 3);
        // 2 is as near to KID 0 as to KID 3, 4 to KID 2 as to KID 3, 6 to KID 1 as to KID 2
        int[] like = {3, 2, 2, 1};
        for (int kid = 0; kid < 4; kid++) {
            Due.is("16: of like ones the least", x.has(kid), like[kid]);
        }
        Due.is("16: no kid", x.has(-1), -2);
        Due.is("16: no kid", x.has(4), -2);
        ChestnutSticks y = Due.tree("9");
        y.stick(0, 0, 4);
        y.toss(0, 0, 0);
        Due.is("16: green ones are wasted", y.has(0), 0);
        y.set(3, 1);
        Due.is("16: under both laws", y.has(0), 0);
        Due.is("14: though it came down", y.state(1, 2), 1);
    }
}
