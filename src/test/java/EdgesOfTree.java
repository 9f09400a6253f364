/** Boundary cases of THE TREE: promises 1 to 5, and 14, 15, 17, 23, 39 as far as they tell of it. */
final class EdgesOfTree {
    private static final String ROW = "01234567";
    private static final long LONG_BAD = Long.MIN_VALUE + 2;

    private EdgesOfTree() {
    }

    static void run() {
        aNewObject();
        aByte();
        bytesAtMost();
        fullOrBad();
        wiped();
        undone();
        anEmptyText();
        notEnded();
        aNinthColumn();
        aByteMore();
        aSemicolonTooSoon();
        theEndTooSoon();
        aSeventhRow();
        theSigns();
        upToSixRows();
        asWideAsTheFirst();
        theTopFirst();
        cellNumbers();
        aBallOrNone();
        noCellWithAFault();
        aThirdOfTheDay();
        zeroAtLeast();
        ripeByTwo();
    }

    private static void fault(String text, int place) {
        Due.is("fault() of \"" + text + "\"", Due.tree(text).fault(), place);
    }

    private static String times(String part, int n, String between) {
        StringBuilder all = new StringBuilder();
        for (int i = 0; i < n; i++) {
            all.append(i == 0 ? "" : between).append(part);
        }
        return all.toString();
    }

    private static void aNewObject() {
        Due.sentence("No TREE; all SHEETS are LOST.", 1);
        ChestnutSticks x = new ChestnutSticks();
        for (int what = 0; what <= 2; what++) {
            Due.is("count(" + what + ")", x.count(what), 0);
        }
        Due.is("hangs(0)", x.hangs(0), -2);
        for (int s = 0; s < 4; s++) {
            Due.is("lose(" + s + ")", x.lose(s), -11);
        }
    }

    private static void aByte() {
        Due.sentence("A byte (0 to 255) comes behind THE TREE: how many.", 2);
        ChestnutSticks x = new ChestnutSticks();
        Due.is("type(-1)", x.type(-1), -2);
        Due.is("type(256)", x.type(256), -2);
        Due.is("type(least)", x.type(Integer.MIN_VALUE), -2);
        Due.is("type(greatest)", x.type(Integer.MAX_VALUE), -2);
        Due.is("count(2) behind refusals", x.count(2), 0);
        Due.is("type(0)", x.type(0), 1);
        Due.is("type(255)", x.type(255), 2);
    }

    private static void bytesAtMost() {
        Due.sentence("The text has up to 53 bytes.", 2);
        ChestnutSticks x = Due.tree(times(ROW, 6, ";"));
        Due.is("count(2)", x.count(2), 53);
        Due.is("a 54th", x.type('1'), -4);
        Due.is("count(2) behind it", x.count(2), 53);
        Due.is("fault() behind it", x.fault(), -1);
        Due.is("undo()", x.undo(), 52);
        Due.is("the 53rd again", x.type('1'), 53);
        ChestnutSticks y = new ChestnutSticks();
        Due.types(y, 'x', 53);
        Due.is("a 54th behind a FAULT", y.type('x'), -4);
    }

    private static void fullOrBad() {
        Due.sentence("comes behind THE TREE: how many. BAD; FULL.", 2);
        ChestnutSticks x = new ChestnutSticks();
        Due.types(x, '.', 53);
        Due.is("type(256) of a full one", x.type(256), -2);
        Due.is("type(-1) of a full one", x.type(-1), -2);
        Due.is("type(255) of a full one", x.type(255), -4);
    }

    private static void wiped() {
        Due.sentence("It is empty: how many bytes it had.", 3);
        ChestnutSticks x = new ChestnutSticks();
        Due.is("wipe() of an empty one", x.wipe(), 0);
        Due.types(x, '7', 53);
        Due.is("wipe() of a full one", x.wipe(), 53);
        Due.is("wipe() again", x.wipe(), 0);
        Due.is("count(2)", x.count(2), 0);
        Due.is("type behind it", x.type('7'), 1);
    }

    private static void undone() {
        Due.sentence("Its last byte is undone: how many are left. NOT: it is empty.", 4);
        ChestnutSticks x = new ChestnutSticks();
        Due.is("undo() of an empty one", x.undo(), -3);
        x.type('5');
        Due.is("undo() of one byte", x.undo(), 0);
        Due.is("count(0) behind it", x.count(0), 0);
        Due.is("undo() behind it", x.undo(), -3);
        Due.types(x, '5', 53);
        Due.is("undo() of 53", x.undo(), 52);
        x.wipe();
        Due.is("undo() behind wipe()", x.undo(), -3);
    }

    private static void anEmptyText() {
        Due.sentence("an empty text is well", 5);
        ChestnutSticks x = new ChestnutSticks();
        Due.is("fault() of a new object", x.fault(), -1);
        x.type('x');
        x.undo();
        Due.is("fault() behind undo()", x.fault(), -1);
        x.type('x');
        x.wipe();
        Due.is("fault() behind wipe()", x.fault(), -1);
    }

    private static void notEnded() {
        Due.sentence("of one that is not ended, its end", 5);
        fault("1;", 2);
        fault("12;", 3);
        fault("12;34;", 6);
        fault(ROW + ";", 9);
    }

    private static void aNinthColumn() {
        Due.sentence("here also of a ninth column", 5);
        fault(ROW, -1);
        fault(ROW + "8", 8);
        fault(ROW + ".", 8);
        fault(ROW + "x", 8);
        fault(ROW + "8;" + ROW, 8);
        fault(ROW + ";" + ROW + "8", 17);
    }

    private static void aByteMore() {
        Due.sentence("of a byte more than the first row has", 5);
        fault("1;2", -1);
        fault("1;22", 3);
        fault("1;2.", 3);
        fault("1;2x", 3);
        fault("12;34;567", 8);
        fault("1234567;" + ROW, 15);
    }

    private static void aSemicolonTooSoon() {
        Due.sentence("of a ; or the end that comes too soon", 5);
        fault(";", 0);
        fault(";1", 0);
        fault("1;;", 2);
        fault("1;;1", 2);
        fault("12;;34", 3);
        fault("12;3;45", 4);
        fault(ROW + ";0123456;", 16);
        fault("1;2;", 4);
    }

    private static void theEndTooSoon() {
        Due.sentence("or the end that comes too soon", 5);
        fault("12;3", 4);
        fault("12;34;5", 7);
        fault(ROW + ";0123456", 16);
        fault(times(ROW, 5, ";") + ";0123456", 52);
        fault("12;34", -1);
    }

    private static void aSeventhRow() {
        Due.sentence("or of the first byte of a seventh row", 5);
        String six = times("1", 6, ";");
        fault(six, -1);
        fault(six + ";", 12);
        fault(six + ";1", 12);
        fault(six + ";;", 12);
        fault(six + ";x", 12);
        fault(six + ";1;1", 12);
        fault(times(".2", 7, ";"), 18);
        fault(times("1234567", 6, ";") + ";1", 48);
    }

    private static void theSigns() {
        Due.sentence("figures (a ball: how fast it HANGS at first, 0 to 9) and .", 5, 15);
        for (int b = 0; b < 256; b++) {
            ChestnutSticks x = new ChestnutSticks();
            x.type(b);
            boolean isFigure = b >= 48 && b <= 57;
            boolean isSign = isFigure || b == 46;
            Due.is("fault() of byte " + b, x.fault(), isSign ? -1 : 0);
            Due.is("balls of byte " + b, x.count(1), isFigure ? 1 : 0);
            x.set(1, 0);
            Due.is("hangs(0) of byte " + b, x.hangs(0), isFigure ? b - 48 : isSign ? -1 : -2);
        }
    }

    private static void upToSixRows() {
        Due.sentence("THE TREE (text 0) is up to 6 rows with ; between them", 5, 39);
        for (int rows = 1; rows <= 6; rows++) {
            ChestnutSticks x = Due.tree(times("1.", rows, ";"));
            Due.is("fault() of " + rows + " rows", x.fault(), -1);
            Due.is("CELLS of " + rows + " rows", x.count(0), 2 * rows);
            Due.is("balls of " + rows + " rows", x.count(1), rows);
        }
    }

    private static void asWideAsTheFirst() {
        Due.sentence("all as wide as the first (1 to 8)", 5, 39);
        for (int width = 1; width <= 8; width++) {
            ChestnutSticks x = Due.tree(times("9999.999".substring(0, width), 6, ";"));
            Due.is("fault() of width " + width, x.fault(), -1);
            Due.is("CELLS of width " + width, x.count(0), 6 * width);
        }
    }

    private static void theTopFirst() {
        Due.sentence("the top first", 15);
        ChestnutSticks x = Due.tree("1;2;3;4;5;6");
        x.set(1, 0);
        for (int row = 0; row < 6; row++) {
            Due.is("hangs(" + 8 * row + ")", x.hangs(8 * row), row + 1);
        }
    }

    private static void cellNumbers() {
        Due.sentence("CELLS are 8 times the row and the column (0 to 47)", 15, 39);
        ChestnutSticks x = Due.tree("12;34;56");
        int[] there = {0, 1, 8, 9, 16, 17};
        int at = 0;
        for (int cell = -1; cell <= 48; cell++) {
            boolean isThere = at < there.length && there[at] == cell;
            at += isThere ? 1 : 0;
            Due.that("CELL " + cell + " is there: " + isThere, x.hangs(cell) != -2 == isThere);
        }
        ChestnutSticks all = Due.tree(times("........", 6, ";"));
        Due.is("hangs(0) of a full one", all.hangs(0), -1);
        Due.is("hangs(47) of a full one", all.hangs(47), -1);
        Due.is("hangs(48) of a full one", all.hangs(48), -2);
        Due.is("hangs(-1) of a full one", all.hangs(-1), -2);
        Due.is("CELLS of a full one", all.count(0), 48);
    }

    private static void aBallOrNone() {
        Due.sentence("those that there are have a ball or none", 15, 39);
        ChestnutSticks x = Due.tree(".0");
        Due.is("hangs() of none", x.hangs(0), -1);
        Due.is("hangs() of a ball by 0", x.hangs(1), 0);
        Due.is("CELLS", x.count(0), 2);
        Due.is("balls", x.count(1), 1);
        Due.is("balls of none", Due.tree("...").count(1), 0);
    }

    private static void noCellWithAFault() {
        Due.sentence("With a FAULT there is no CELL.", 5, 13, 15, 17, 18, 19, 20, 21, 39);
        ChestnutSticks x = Due.tree("00;00");
        x.toss(0, 0, 0);
        Due.is("state(1, 4) while it is well", x.state(1, 4), 1);
        x.type('0');
        Due.is("count(0)", x.count(0), 0);
        Due.is("count(1)", x.count(1), 0);
        Due.is("hangs(0)", x.hangs(0), -2);
        Due.is("judged()", x.judged(), 0);
        Due.is("state(1, 0)", x.state(1, 0), 0);
        Due.is("brings(0, 0, 1)", x.brings(0, 0, 1), LONG_BAD);
        Due.is("worth(0, 0)", x.worth(0, 0), -1000002);
        Due.is("where(0)", x.where(0), -1);
        Due.is("which()", x.which(), -1);
        Due.is("frees(0, 0, 1)", x.frees(0, 0, 1), -2);
        Due.is("ripe(29)", x.ripe(29), 0);
        x.undo();
        Due.is("count(0) behind undo()", x.count(0), 4);
        Due.is("judged() behind undo()", x.judged(), -1);
    }

    private static void aThirdOfTheDay() {
        Due.sentence("In DAY d (0 to 29) a ball HANGS by a third of d (cut) less than at first", 15, 23);
        ChestnutSticks x = Due.tree("9");
        int[] due = {9, 9, 9, 8, 8, 8, 7, 7, 7, 6, 6, 6, 5, 5, 5, 4, 4, 4, 3, 3, 3, 2, 2, 2, 1, 1, 1, 0, 0, 0};
        for (int day = 0; day < 30; day++) {
            x.set(1, day);
            Due.is("hangs(0) in DAY " + day, x.hangs(0), due[day]);
            Due.is("ripe(" + day + ")", x.ripe(day), due[day] <= 2 ? 1 : 0);
        }
    }

    private static void zeroAtLeast() {
        Due.sentence("(0 at least)", 15);
        ChestnutSticks x = Due.tree("0123");
        x.set(1, 29);
        for (int cell = 0; cell < 4; cell++) {
            Due.is("hangs(" + cell + ") in DAY 29", x.hangs(cell), 0);
        }
        x.set(1, 3);
        Due.is("hangs(0) in DAY 3", x.hangs(0), 0);
        Due.is("hangs(1) in DAY 3", x.hangs(1), 0);
        Due.is("hangs(2) in DAY 3", x.hangs(2), 1);
    }

    private static void ripeByTwo() {
        Due.sentence("It is RIPE, if it HANGS by 2 or less, else GREEN.", 14, 17, 23);
        ChestnutSticks x = Due.tree("23");
        x.set(1, 0);
        x.stick(0, 0, 9);
        Due.is("ripe(0)", x.ripe(0), 1);
        Due.is("brings RIPE of 2", x.brings(0, 0, 0), 1);
        Due.is("brings GREEN of 2", x.brings(0, 0, 2), 0);
        Due.is("brings RIPE of 3", x.brings(0, 1, 0), 0);
        Due.is("brings GREEN of 3", x.brings(0, 1, 2), 1);
        x.toss(0, 0, 0);
        Due.is("RIPE behind the 2", x.state(1, 1), 1);
        Due.is("GREEN behind the 2", x.state(1, 2), 0);
        x.toss(0, 0, 1);
        Due.is("RIPE behind the 3", x.state(2, 1), 1);
        Due.is("GREEN behind the 3", x.state(2, 2), 1);
    }
}
