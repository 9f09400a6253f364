/** Promises 6 to 10: stick, set, seed, stands, read. */
public final class SticksTest {
    public static void main(String[] args) {
        sticks();
        sets();
        seed();
        stands();
        read();
        Due.end("SticksTest");
    }

    private static void sticks() {
        ChestnutSticks x = new ChestnutSticks();
        int[][] ranges = {{1, 9, 3}, {1, 3, 1}, {0, 16, 0}};
        for (int stick = 0; stick < 4; stick++) {
            for (int what = 0; what < 3; what++) {
                String call = "6: stick(" + stick + ", " + what + ")";
                Due.is(call + " below", x.stick(stick, what, ranges[what][0] - 1), -2);
                Due.is(call + " above", x.stick(stick, what, ranges[what][1] + 1), -2);
                Due.is(call + " at first", x.stick(stick, what, ranges[what][0]), ranges[what][2]);
                Due.is(call + " the least", x.stick(stick, what, ranges[what][1]), ranges[what][0]);
                Due.is(call + " the most", x.stick(stick, what, ranges[what][1]), ranges[what][1]);
            }
        }
        Due.is("6: no stick", x.stick(-1, 0, 3), -2);
        Due.is("6: no stick", x.stick(4, 0, 3), -2);
        Due.is("6: no what", x.stick(0, -1, 3), -2);
        Due.is("6: no what", x.stick(0, 3, 3), -2);
    }

    private static void sets() {
        ChestnutSticks x = new ChestnutSticks();
        int[] most = {8, 29, 9, 1, 9, 16};
        int[] first = {0, 20, 1, 0, 5, 4};
        for (int what = 0; what < 6; what++) {
            Due.is("7: below, " + what, x.set(what, -1), -2);
            Due.is("7: above, " + what, x.set(what, most[what] + 1), -2);
            Due.is("7: at first, " + what, x.set(what, most[what]), first[what]);
        }
        for (int what = 0; what < 6; what++) {
            Due.is("7: the most, " + what, x.set(what, 0), most[what]);
            Due.is("7: the least, " + what, x.set(what, 1), 0);
        }
        Due.is("7: no what", x.set(-1, 0), -2);
        Due.is("7: no what", x.set(6, 0), -2);
        Due.is("39: DAY", x.count(7), 1);
    }

    private static void seed() {
        ChestnutSticks x = new ChestnutSticks();
        Due.is("8: at first 1", x.seed(0x12345678), 0);
        Due.is("8: upper bits", x.seed(0x80000000), 0x1234);
        Due.is("8: from 0 on", x.seed(-65536), 0x8000);
        Due.is("8: all upper bits", x.seed(0), 0xffff);
        Due.is("8: none", x.seed(0), 0);
        x.type('1');
        x.seed(0x7fff0000);
        x.toss(0, 0, 0);
        x.state(1, 0);
        x.seeds();
        x.digest();
        Due.is("8: THROWS leave it as it is", x.seed(0), 0x7fff);
    }

    private static void stands() {
        ChestnutSticks x = new ChestnutSticks();
        for (int kid = 0; kid < 4; kid++) {
            Due.is("9: below", x.stands(kid, -1), -2);
            Due.is("9: above", x.stands(kid, 8), -2);
            Due.is("9: at first", x.stands(kid, 7 - kid), 0);
        }
        for (int kid = 0; kid < 4; kid++) {
            Due.is("9: as set", x.stands(kid, 0), 7 - kid);
        }
        Due.is("9: no kid", x.stands(-1, 0), -2);
        Due.is("9: no kid", x.stands(4, 0), -2);
    }

    private static void read() {
        ChestnutSticks x = new ChestnutSticks();
        Due.is("10: no sheet", x.read(-1), -2);
        Due.is("10: no sheet", x.read(4), -2);
        Due.is("10: LOST", x.read(3), -11);
        Due.is("10: the finding", x.count(8), 1);
        x.sheet(3, 2, 0);
        Due.is("10: no items", x.read(3), 0);
        x.sheet(3, 0, 6);
        for (int i = 0; i < 6; i++) {
            x.lay(3, 0, i, i + 2);
        }
        Due.is("10: four at most", x.read(3), 4);
        for (int kid = 0; kid < 4; kid++) {
            Due.is("10: KID " + kid, x.stands(kid, 1), kid + 2);
        }
        x.sheet(2, 2, 3);
        x.lay(2, 2, 0, 6);
        x.lay(2, 2, 1, -1);
        Due.is("10: as long as each may be", x.read(2), 1);
        Due.is("10: KID 0", x.stands(0, 1), 6);
        Due.is("10: KID 1 as it was", x.stands(1, 1), 1);
        x.lay(2, 2, 0, 8);
        Due.is("10: none", x.read(2), 0);
        Due.is("10: KID 0 as it was", x.stands(0, 1), 1);
        x.sheet(2, 1, 2);
        Due.is("10: fewer than four", x.read(2), 2);
        Due.is("10: KID 2 as it was", x.stands(2, 1), 1);
    }
}
