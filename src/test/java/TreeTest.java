/** Promises 1 to 5: a new object, type, wipe, undo, fault; and what count() tells of THE TREE. */
public final class TreeTest {
    public static void main(String[] args) {
        newObject();
        typing();
        wipeAndUndo();
        faults();
        cellsAndBalls();
        Due.end("TreeTest");
    }

    private static void newObject() {
        ChestnutSticks x = new ChestnutSticks();
        int[] counts = {0, 0, 0, 0, 0, 0, 0, 20, 0};
        for (int what = 0; what < counts.length; what++) {
            Due.is("1: count(" + what + ")", x.count(what), counts[what]);
        }
        Due.is("1: fault()", x.fault(), -1);
        for (int s = 0; s < 4; s++) {
            Due.is("1: lose(" + s + ")", x.lose(s), -11);
        }
        int[] firsts = {0, 20, 1, 0, 5, 4};
        for (int what = 0; what < firsts.length; what++) {
            Due.is("1: set(" + what + ", 0)", x.set(what, 0), firsts[what]);
        }
        for (int stick = 0; stick < 4; stick++) {
            Due.is("1: HEAVY of " + stick, x.stick(stick, 0, 1), 3);
            Due.is("1: LONG of " + stick, x.stick(stick, 1, 1), 1);
            Due.is("1: LODGES of " + stick, x.stick(stick, 2, 1), 0);
            Due.is("1: KID " + stick + " stands", x.stands(stick, 1), 0);
        }
    }

    private static void typing() {
        ChestnutSticks x = new ChestnutSticks();
        Due.is("2: type(-1)", x.type(-1), -2);
        Due.is("2: type(256)", x.type(256), -2);
        Due.is("2: type(least)", x.type(Integer.MIN_VALUE), -2);
        Due.is("2: type(0)", x.type(0), 1);
        Due.is("2: type(255)", x.type(255), 2);
        Due.types(x, '1', 51);
        Due.is("2: 53 bytes", x.count(2), 53);
        Due.is("2: FULL", x.type('1'), -4);
        Due.is("2: BAD ahead of FULL", x.type(256), -2);
        Due.is("2: still 53 bytes", x.count(2), 53);
    }

    private static void wipeAndUndo() {
        ChestnutSticks x = new ChestnutSticks();
        Due.is("3: wipe() of none", x.wipe(), 0);
        Due.is("4: undo() of none", x.undo(), -3);
        Due.write(x, "12;34");
        Due.is("4: undo()", x.undo(), 4);
        Due.is("4: the fault behind undo()", x.fault(), 4);
        Due.is("4: undo()", x.undo(), 3);
        Due.is("4: undo()", x.undo(), 2);
        Due.is("4: the CELLS behind undo()", x.count(0), 2);
        Due.is("4: type behind undo()", x.type('7'), 3);
        Due.is("3: wipe()", x.wipe(), 3);
        x.type('7');
        Due.is("4: undo() of the only one", x.undo(), 0);
        Due.is("4: no CELLS are left", x.count(0), 0);
        Due.is("3: bytes behind wipe()", x.count(2), 0);
        Due.is("3: CELLS behind wipe()", x.count(0), 0);
        Due.is("3: fault() behind wipe()", x.fault(), -1);
        Due.is("4: undo() behind wipe()", x.undo(), -3);
    }

    private static void faults() {
        fault("", -1);
        fault("1", -1);
        fault(".", -1);
        fault("01234567", -1);
        fault("1.;.2;99", -1);
        fault("a", 0);
        fault(";", 0);
        fault(" 1", 0);
        fault("1 ", 1);
        fault("1:", 1);
        fault("1/", 1);
        fault("012345678", 8);
        fault("01234567x", 8);
        fault("01234567;", 9);
        fault("1;", 2);
        fault("1;;", 2);
        fault("12;3", 4);
        fault("12;3;", 4);
        fault("12;3x", 4);
        fault("12;345", 5);
        fault("12;34x", 5);
        fault("1;22;3", 3);
        fault("1;1;1;1;1;1", -1);
        fault("1;1;1;1;1;1;", 12);
        fault("1;1;1;1;1;1;1", 12);
        fault("1;1;1;1;1;1;;", 12);
        fault("1;1;1;1;1;1;x", 12);
        fault("1;1;1;1;1;12", 11);
        fault("x;1;1;1;1;1;1", 0);
        fault("........;........;........;........;........;........", -1);
    }

    private static void fault(String text, int place) {
        ChestnutSticks x = Due.tree(text);
        Due.is("5: fault() of " + text, x.fault(), place);
        if (place != -1) {
            Due.is("5: CELLS with a FAULT, " + text, x.count(0), 0);
            Due.is("5: balls with a FAULT, " + text, x.count(1), 0);
            Due.is("5: CELL 0 with a FAULT, " + text, x.hangs(0), -2);
        }
    }

    private static void cellsAndBalls() {
        ChestnutSticks x = Due.tree("1..;.2.");
        Due.is("39: CELLS", x.count(0), 6);
        Due.is("39: balls at first", x.count(1), 2);
        int[] there = {0, 1, 2, 8, 9, 10};
        int at = 0;
        for (int cell = -1; cell < 50; cell++) {
            boolean isThere = at < there.length && there[at] == cell;
            at += isThere ? 1 : 0;
            Due.that("CELL " + cell + " is there: " + isThere, x.hangs(cell) != -2 == isThere);
        }
    }
}
