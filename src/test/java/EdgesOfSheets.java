/** Boundary cases of SHEETS and their FINDINGS: promises 33 to 38. */
final class EdgesOfSheets {
    private static final int LEAST = Integer.MIN_VALUE, GREATEST = Integer.MAX_VALUE;
    private static final int NULL = 1, INDEX = 2, CAST = 3, STORE = 4, SIZE = 5;

    private EdgesOfSheets() {
    }

    static void run() {
        lostAtFirst();
        forms();
        items();
        sheetRefuses();
        aNewRow();
        lose();
        loseRefuses();
        lowestBits();
        layRefuses();
        layIndex();
        get();
        getRefuses();
        copyRefuses();
        copyNull();
        copyStore();
        copyIndex();
        copyNone();
        copyAsTheyWere();
        write();
        writeRefuses();
        findings();
    }

    private static void finding(ChestnutSticks x, String call, long got, int number) {
        Due.is(call, got, -10 - number);
        Due.is(call + ", count(8)", x.count(8), number);
    }

    private static void refused(ChestnutSticks x, String call, long got, int latest) {
        Due.is(call, got, -2);
        Due.is(call + " is no FINDING", x.count(8), latest);
    }

    private static void lostAtFirst() {
        Due.sentence("SHEETS 0 .. 3 are LOST (at first) or a row of a FORM", 1, 33);
        ChestnutSticks x = new ChestnutSticks();
        for (int s = 0; s < 4; s++) {
            finding(x, "lose(" + s + ")", x.lose(s), NULL);
        }
        for (int s = 0; s < 4; s++) {
            Due.is("sheet(" + s + ", 0, " + s + ")", x.sheet(s, 0, s), s);
        }
        for (int s = 0; s < 4; s++) {
            Due.is("each is its own, " + s, x.lose(s), s);
        }
    }

    private static void forms() {
        Due.sentence("0 bytes, 1 shorts, 2 ints, of 0 to 60 items (0 at first)", 33);
        ChestnutSticks x = new ChestnutSticks();
        for (int form = 0; form < 3; form++) {
            Due.is("FORM " + form + ", 0 items", x.sheet(0, form, 0), 0);
            Due.is("no item 0", x.get(0, form, 0), LEAST);
            Due.is("FORM " + form + ", 60 items", x.sheet(0, form, 60), 60);
            for (int i = 0; i < 60; i++) {
                Due.is("item " + i + " at first", x.get(0, form, i), 0);
            }
            Due.is("no item 60", x.get(0, form, 60), LEAST);
        }
    }

    private static void items() {
        Due.sentence("A SHEET is a new row of a FORM with n items: n. BAD: SHEET, FORM, above 60; SIZE.", 33);
        ChestnutSticks x = new ChestnutSticks();
        refused(x, "61 items", x.sheet(0, 0, 61), 0);
        refused(x, "so many items", x.sheet(0, 0, GREATEST), 0);
        finding(x, "it is LOST still", x.lose(0), NULL);
        finding(x, "-1 items", x.sheet(0, 0, -1), SIZE);
        finding(x, "the least int", x.sheet(0, 0, LEAST), SIZE);
        Due.is("it is LOST still", x.lose(0), -11);
    }

    private static void sheetRefuses() {
        Due.sentence("BAD: SHEET, FORM, above 60; SIZE.", 33);
        ChestnutSticks x = new ChestnutSticks();
        refused(x, "SHEET -1", x.sheet(-1, 0, 1), 0);
        refused(x, "SHEET 4", x.sheet(4, 0, 1), 0);
        refused(x, "FORM -1", x.sheet(0, -1, 1), 0);
        refused(x, "FORM 3", x.sheet(0, 3, 1), 0);
        refused(x, "SHEET 4, SIZE", x.sheet(4, 0, -1), 0);
        refused(x, "FORM 3, SIZE", x.sheet(0, 3, -1), 0);
        refused(x, "SHEET, the least int, SIZE", x.sheet(LEAST, 0, LEAST), 0);
    }

    private static void aNewRow() {
        Due.sentence("A SHEET is a new row of a FORM", 33);
        ChestnutSticks x = new ChestnutSticks();
        x.sheet(0, 2, 60);
        x.lay(0, 2, 0, 7);
        x.lay(0, 2, 59, 7);
        Due.is("in its place, 60", x.sheet(0, 2, 60), 60);
        Due.is("item 0 is 0 again", x.get(0, 2, 0), 0);
        Due.is("item 59 is 0 again", x.get(0, 2, 59), 0);
        x.lay(0, 2, 59, 7);
        Due.is("in its place, fewer, bytes", x.sheet(0, 0, 1), 1);
        Due.is("it has another FORM", x.get(0, 2, 0), LEAST);
        Due.is("in its place, more", x.sheet(0, 2, 60), 60);
        Due.is("item 59 is 0 again", x.get(0, 2, 59), 0);
        x.lay(0, 2, 59, 7);
        x.lose(0);
        x.sheet(0, 2, 60);
        Due.is("behind lose(), item 59", x.get(0, 2, 59), 0);
        x.lay(0, 2, 5, 7);
        finding(x, "one that is refused", x.sheet(0, 0, -1), SIZE);
        Due.is("leaves it", x.get(0, 2, 5), 7);
        refused(x, "one that is refused", x.sheet(0, 0, 61), SIZE);
        Due.is("leaves it", x.get(0, 2, 5), 7);
    }

    private static void lose() {
        Due.sentence("It is LOST: how many items it had.", 34);
        ChestnutSticks x = new ChestnutSticks();
        x.sheet(0, 0, 0);
        x.sheet(3, 2, 60);
        Due.is("of 0 items", x.lose(0), 0);
        Due.is("of 60 items", x.lose(3), 60);
        Due.is("it is LOST", x.get(3, 2, 0), LEAST);
        Due.is("NULL", x.count(8), NULL);
    }

    private static void loseRefuses() {
        Due.sentence("how many items it had. BAD; NULL.", 34);
        ChestnutSticks x = new ChestnutSticks();
        refused(x, "lose(-1)", x.lose(-1), 0);
        refused(x, "lose(4)", x.lose(4), 0);
        refused(x, "lose(least)", x.lose(LEAST), 0);
        finding(x, "lose(0)", x.lose(0), NULL);
        x.sheet(0, 0, 0);
        Due.is("of 0 items it is not LOST", x.lose(0), 0);
        finding(x, "again", x.lose(0), NULL);
    }

    private static void lowestBits() {
        Due.sentence("becomes v (the lowest bits that it has): 1.", 35, 36);
        int[] values = {0, 1, -1, 127, 128, 255, 256, -128, -129, 32767, 32768, 65535, 65536, -32768, -32769, GREATEST, LEAST + 1};
        int[] bytes = {0, 1, -1, 127, -128, -1, 0, -128, 127, -1, 0, -1, 0, 0, -1, -1, 1};
        int[] shorts = {0, 1, -1, 127, 128, 255, 256, -128, -129, 32767, -32768, -1, 0, -32768, 32767, -1, 1};
        ChestnutSticks x = new ChestnutSticks();
        for (int form = 0; form < 3; form++) {
            x.sheet(form, form, 60);
            int[] due = form == 0 ? bytes : form == 1 ? shorts : values;
            for (int i = 0; i < values.length; i++) {
                Due.is("lay " + values[i], x.lay(form, form, 59, values[i]), 1);
                Due.is("FORM " + form + " of " + values[i], x.get(form, form, 59), due[i]);
            }
            Due.is("the item ahead of it", x.get(form, form, 58), 0);
        }
    }

    private static void layRefuses() {
        Due.sentence("(the lowest bits that it has): 1. BAD; NULL; CAST; INDEX.", 35);
        ChestnutSticks x = new ChestnutSticks();
        x.sheet(0, 0, 2);
        refused(x, "SHEET -1", x.lay(-1, 0, 0, 5), 0);
        refused(x, "SHEET 4", x.lay(4, 0, 0, 5), 0);
        refused(x, "FORM -1", x.lay(0, -1, 0, 5), 0);
        refused(x, "FORM 3", x.lay(0, 3, 0, 5), 0);
        refused(x, "FORM 3 of a LOST one", x.lay(1, 3, -1, 5), 0);
        finding(x, "a LOST one", x.lay(1, 0, 0, 5), NULL);
        finding(x, "another FORM", x.lay(0, 1, 0, 5), CAST);
        finding(x, "a LOST one, no item", x.lay(1, 0, -1, 5), NULL);
        finding(x, "another FORM, no item", x.lay(0, 2, 2, 5), CAST);
        finding(x, "no item", x.lay(0, 0, 2, 5), INDEX);
        Due.is("item 0 is as it was", x.get(0, 0, 0), 0);
        Due.is("item 1 is as it was", x.get(0, 0, 1), 0);
    }

    private static void layIndex() {
        Due.sentence("2 INDEX: there is no such item", 35, 36);
        ChestnutSticks x = new ChestnutSticks();
        int[] sizes = {0, 1, 59, 60};
        for (int size : sizes) {
            x.sheet(2, 1, size);
            finding(x, "item -1 of " + size, x.lay(2, 1, -1, 5), INDEX);
            finding(x, "item " + size + " of " + size, x.lay(2, 1, size, 5), INDEX);
            finding(x, "the least int", x.lay(2, 1, LEAST, 5), INDEX);
            finding(x, "the greatest int", x.lay(2, 1, GREATEST, 5), INDEX);
            Due.is("the last of " + size, x.lay(2, 1, size - 1, 5), size == 0 ? -12 : 1);
            Due.is("got, the last of " + size, x.get(2, 1, size - 1), size == 0 ? LEAST : 5);
            Due.is("got, one more than " + size, x.get(2, 1, size), LEAST);
        }
        x.sheet(1, 1, 60);
        x.sheet(2, 1, 60);
        x.sheet(3, 1, 60);
        x.lay(2, 1, 60, 5);
        x.lay(2, 1, -1, 5);
        Due.is("the SHEET behind is as it was", x.get(3, 1, 0), 0);
        Due.is("the SHEET ahead is as it was", x.get(1, 1, 59), 0);
    }

    private static void get() {
        Due.sentence("Item i of it. BAD: the least int", 36);
        ChestnutSticks x = new ChestnutSticks();
        x.sheet(0, 2, 1);
        Due.is("SHEET -1", x.get(-1, 2, 0), LEAST);
        Due.is("SHEET 4", x.get(4, 2, 0), LEAST);
        Due.is("FORM -1", x.get(0, -1, 0), LEAST);
        Due.is("FORM 3", x.get(0, 3, 0), LEAST);
        Due.is("FORM 3 of a LOST one", x.get(1, 3, 0), LEAST);
        Due.is("these are no FINDINGS", x.count(8), 0);
        x.lay(0, 2, 0, LEAST);
        Due.is("an item that is the least int", x.get(0, 2, 0), LEAST);
        Due.is("is none, either", x.count(8), 0);
    }

    private static void getRefuses() {
        Due.sentence("so are NULL, CAST, INDEX (count() 8 tells)", 36);
        ChestnutSticks x = new ChestnutSticks();
        x.sheet(0, 1, 2);
        got(x, "a LOST one", x.get(1, 1, 0), NULL);
        got(x, "another FORM", x.get(0, 2, 0), CAST);
        got(x, "no item", x.get(0, 1, 2), INDEX);
        got(x, "another FORM, no item", x.get(0, 0, -1), CAST);
        got(x, "item -1", x.get(0, 1, -1), INDEX);
        got(x, "a LOST one, no item", x.get(1, 1, -1), NULL);
    }

    private static void got(ChestnutSticks x, String call, int got, int number) {
        Due.is(call, got, LEAST);
        Due.is(call + ", count(8)", x.count(8), number);
    }

    /** SHEET 0 has the shorts 1 to 6, SHEET 1 four shorts, SHEET 2 six ints; SHEET 3 is LOST. */
    private static ChestnutSticks rows() {
        ChestnutSticks x = new ChestnutSticks();
        x.sheet(0, 1, 6);
        x.sheet(1, 1, 4);
        x.sheet(2, 2, 6);
        for (int i = 0; i < 6; i++) {
            x.lay(0, 1, i, i + 1);
        }
        return x;
    }

    private static void row(ChestnutSticks x, int s, int form, int... due) {
        for (int i = 0; i < due.length; i++) {
            Due.is("SHEET " + s + ", item " + i, x.get(s, form, i), due[i]);
        }
    }

    private static void untouched(ChestnutSticks x) {
        row(x, 0, 1, 1, 2, 3, 4, 5, 6);
        row(x, 1, 1, 0, 0, 0, 0);
        row(x, 2, 2, 0, 0, 0, 0, 0, 0);
    }

    private static void copyRefuses() {
        Due.sentence("BAD: the SHEETS; NULL: s, t; STORE; INDEX: below 0, not so many.", 37);
        ChestnutSticks x = rows();
        refused(x, "s -1", x.copy(-1, 0, 1, 0, 1), 0);
        refused(x, "s 4", x.copy(4, 0, 1, 0, 1), 0);
        refused(x, "t -1", x.copy(0, 0, -1, 0, 1), 0);
        refused(x, "t 4", x.copy(0, 0, 4, 0, 1), 0);
        refused(x, "t 4, s LOST", x.copy(3, 0, 4, 0, 1), 0);
        refused(x, "s 4, t LOST, items below 0", x.copy(4, -1, 3, -1, -1), 0);
        finding(x, "s LOST, items below 0", x.copy(3, -1, 0, 0, 1), NULL);
        finding(x, "unlike FORMS, items below 0", x.copy(0, -1, 2, 0, 1), STORE);
        finding(x, "t LOST, items below 0", x.copy(0, -1, 3, 0, 1), NULL);
        finding(x, "unlike FORMS, not so many", x.copy(0, 0, 2, 0, 7), STORE);
        finding(x, "not so many", x.copy(0, 0, 1, 0, 7), INDEX);
        untouched(x);
    }

    private static void copyNull() {
        Due.sentence("1 NULL: the SHEET is LOST", 37);
        ChestnutSticks x = rows();
        finding(x, "s", x.copy(3, 0, 0, 0, 1), NULL);
        x.get(0, 0, 0);
        finding(x, "t", x.copy(0, 0, 3, 0, 1), NULL);
        x.get(0, 0, 0);
        finding(x, "both", x.copy(3, 0, 3, 0, 0), NULL);
        x.get(0, 0, 0);
        finding(x, "none of t", x.copy(0, 0, 3, 0, 0), NULL);
    }

    private static void copyStore() {
        Due.sentence("4 STORE: unlike FORMS", 37);
        ChestnutSticks x = rows();
        x.sheet(3, 0, 6);
        finding(x, "shorts to ints", x.copy(0, 0, 2, 0, 1), STORE);
        finding(x, "ints to shorts", x.copy(2, 0, 0, 0, 1), STORE);
        finding(x, "shorts to bytes", x.copy(0, 0, 3, 0, 1), STORE);
        finding(x, "bytes to ints, none", x.copy(3, 0, 2, 0, 0), STORE);
        untouched(x);
    }

    private static void copyIndex() {
        Due.sentence("INDEX: below 0, not so many.", 37);
        ChestnutSticks x = rows();
        finding(x, "i below 0", x.copy(0, -1, 1, 0, 1), INDEX);
        finding(x, "j below 0", x.copy(0, 0, 1, -1, 1), INDEX);
        finding(x, "n below 0", x.copy(0, 0, 1, 0, -1), INDEX);
        finding(x, "n the least int", x.copy(0, 0, 1, 0, LEAST), INDEX);
        finding(x, "s has not so many", x.copy(0, 3, 1, 0, 4), INDEX);
        finding(x, "t has not so many", x.copy(0, 0, 1, 1, 4), INDEX);
        finding(x, "n the greatest int", x.copy(0, 1, 1, 1, GREATEST), INDEX);
        finding(x, "i the greatest int", x.copy(0, GREATEST, 1, 0, 1), INDEX);
        finding(x, "j the greatest int", x.copy(0, 0, 1, GREATEST, 1), INDEX);
        finding(x, "to itself, not so many", x.copy(0, 0, 0, 5, 2), INDEX);
        untouched(x);
        Due.is("just so many", x.copy(0, 2, 1, 0, 4), 1);
        row(x, 1, 1, 3, 4, 5, 6);
        Due.is("the last to the last", x.copy(0, 0, 1, 3, 1), 1);
        row(x, 1, 1, 3, 4, 5, 1);
    }

    private static void copyNone() {
        Due.sentence("n items of SHEET s, from i on, come to SHEET t", 37);
        ChestnutSticks x = rows();
        Due.is("none", x.copy(0, 0, 1, 0, 0), 1);
        Due.is("none, from the ends on", x.copy(0, 6, 1, 4, 0), 1);
        finding(x, "none, from behind the end on", x.copy(0, 7, 1, 0, 0), INDEX);
        finding(x, "none, to behind the end", x.copy(0, 0, 1, 5, 0), INDEX);
        untouched(x);
        x.sheet(1, 1, 6);
        Due.is("all", x.copy(0, 0, 1, 0, 6), 1);
        row(x, 1, 1, 1, 2, 3, 4, 5, 6);
        x.sheet(1, 1, 0);
        Due.is("none of none", x.copy(1, 0, 1, 0, 0), 1);
    }

    private static void copyAsTheyWere() {
        Due.sentence("(perhaps s, as they were)", 37);
        ChestnutSticks x = rows();
        Due.is("one further", x.copy(0, 0, 0, 1, 5), 1);
        row(x, 0, 1, 1, 1, 2, 3, 4, 5);
        x = rows();
        Due.is("one back", x.copy(0, 1, 0, 0, 5), 1);
        row(x, 0, 1, 2, 3, 4, 5, 6, 6);
        x = rows();
        Due.is("where they are", x.copy(0, 0, 0, 0, 6), 1);
        row(x, 0, 1, 1, 2, 3, 4, 5, 6);
    }

    private static void write() {
        Due.sentence("from item 0 on, as many as there are items and THROWS: how many.", 38);
        ChestnutSticks x = Due.tree("000000");
        x.sheet(0, 0, 3);
        x.lay(0, 0, 0, 9);
        Due.is("no THROWS", x.write(0), 0);
        Due.is("item 0 is as it was", x.get(0, 0, 0), 9);
        x.stick(0, 1, 3);
        x.toss(0, 0, 0);
        x.toss(0, 0, 40);
        x.lay(0, 0, 2, 9);
        Due.is("fewer THROWS", x.write(0), 2);
        row(x, 0, 0, 3, 0, 9);
        x.toss(0, 0, 4);
        Due.is("as many THROWS", x.write(0), 3);
        row(x, 0, 0, 3, 0, 2);
        x.toss(0, 0, 3);
        Due.is("more THROWS", x.write(0), 3);
        row(x, 0, 0, 3, 0, 2);
        x.sheet(1, 2, 0);
        Due.is("no items", x.write(1), 0);
        for (int i = 4; i < 20; i++) {
            x.toss(0, 0, 0);
        }
        x.sheet(1, 1, 60);
        Due.is("20 THROWS", x.write(1), 20);
        row(x, 1, 1, 3, 0, 2, 1, 0);
    }

    private static void writeRefuses() {
        Due.sentence("as many as there are items and THROWS: how many. BAD; NULL.", 38);
        ChestnutSticks x = new ChestnutSticks();
        refused(x, "write(-1)", x.write(-1), 0);
        refused(x, "write(4)", x.write(4), 0);
        refused(x, "write(greatest)", x.write(GREATEST), 0);
        finding(x, "write(0)", x.write(0), NULL);
    }

    private static void findings() {
        Due.sentence("8 the number of the latest FINDING (0 before any)", 39);
        ChestnutSticks x = new ChestnutSticks();
        Due.is("before any", x.count(8), 0);
        x.sheet(0, 0, 1);
        x.sheet(1, 1, 1);
        finding(x, "NULL", x.lay(3, 0, 0, 0), NULL);
        finding(x, "INDEX", x.lay(0, 0, 1, 0), INDEX);
        finding(x, "CAST", x.lay(0, 1, 0, 0), CAST);
        finding(x, "STORE", x.copy(0, 0, 1, 0, 1), STORE);
        finding(x, "SIZE", x.sheet(0, 0, -1), SIZE);
        x.lay(0, 0, 0, 1);
        x.get(0, 0, 0);
        x.lose(0);
        Due.is("what goes well leaves it", x.count(8), SIZE);
        x.undo();
        x.back();
        x.type(256);
        x.frees(0, 0, 0);
        Due.is("so do other refusals", x.count(8), SIZE);
    }
}
