/** Promises 33 to 38: sheet, lose, lay, get, copy, write; and the FINDINGS that count(8) tells. */
public final class SheetsTest {
    private static final int LEAST = Integer.MIN_VALUE;

    public static void main(String[] args) {
        sheetAndLose();
        layAndGet();
        copy();
        write();
        Due.end("SheetsTest");
    }

    private static void finding(ChestnutSticks x, String call, long got, int number) {
        Due.is(call, got, -10 - number);
        Due.is(call + " count(8)", x.count(8), number);
    }

    private static void sheetAndLose() {
        ChestnutSticks x = new ChestnutSticks();
        Due.is("33: no sheet", x.sheet(-1, 0, 1), -2);
        Due.is("33: no sheet", x.sheet(4, 0, 1), -2);
        Due.is("33: no form", x.sheet(0, -1, 1), -2);
        Due.is("33: no form", x.sheet(0, 3, 1), -2);
        Due.is("33: above 60", x.sheet(0, 0, 61), -2);
        Due.is("33: BAD ahead of SIZE", x.sheet(0, 3, -1), -2);
        Due.is("33: no finding yet", x.count(8), 0);
        finding(x, "33: SIZE", x.sheet(0, 0, -1), 5);
        finding(x, "34: still LOST", x.lose(0), 1);
        Due.is("33: 60", x.sheet(0, 2, 60), 60);
        Due.is("33: 0", x.sheet(3, 1, 0), 0);
        Due.is("35: lay", x.lay(0, 2, 59, 5), 1);
        finding(x, "33: SIZE leaves it", x.sheet(0, 0, LEAST), 5);
        Due.is("36: as it was", x.get(0, 2, 59), 5);
        Due.is("33: a new row", x.sheet(0, 2, 60), 60);
        Due.is("36: 0 at first", x.get(0, 2, 59), 0);
        Due.is("34: lose", x.lose(0), 60);
        Due.is("34: lose of none", x.lose(3), 0);
        finding(x, "34: NULL", x.lose(0), 1);
        Due.is("34: BAD", x.lose(-1), -2);
        Due.is("34: BAD", x.lose(4), -2);
    }

    private static void layAndGet() {
        ChestnutSticks x = new ChestnutSticks();
        x.sheet(0, 0, 2);
        x.sheet(1, 1, 2);
        x.sheet(2, 2, 2);
        int[] wants = {(byte) 0x12348f81, (short) 0x12348f81, 0x12348f81};
        for (int s = 0; s < 3; s++) {
            Due.is("35: lay", x.lay(s, s, 1, 0x12348f81), 1);
            Due.is("36: the lowest bits", x.get(s, s, 1), wants[s]);
            Due.is("36: beside it", x.get(s, s, 0), 0);
            Due.is("35: lay", x.lay(s, s, 1, 200), 1);
            Due.is("36: 200", x.get(s, s, 1), s == 0 ? -56 : 200);
        }
        finding(x, "35: NULL", x.lay(3, 0, 0, 1), 1);
        finding(x, "35: CAST", x.lay(0, 1, 0, 1), 3);
        finding(x, "35: INDEX", x.lay(0, 0, 2, 1), 2);
        finding(x, "35: CAST ahead of INDEX", x.lay(0, 2, 9, 1), 3);
        finding(x, "35: INDEX below 0", x.lay(0, 0, -1, 1), 2);
        finding(x, "35: NULL ahead of all", x.lay(3, 2, -1, 1), 1);
        Due.is("35: no sheet", x.lay(4, 0, 0, 1), -2);
        Due.is("35: no sheet", x.lay(-1, 0, 0, 1), -2);
        Due.is("35: no form, ahead of NULL", x.lay(3, 3, 0, 1), -2);
        Due.is("35: no form", x.lay(0, -1, 0, 1), -2);
        Due.is("35: BAD is no finding", x.count(8), 1);
        Due.is("36: CAST", x.get(0, 1, 0), LEAST);
        Due.is("36: nothing was laid", x.get(0, 0, 0), 0);
        Due.is("36: CAST", x.count(8), 3);
        Due.is("36: INDEX", x.get(0, 0, 2), LEAST);
        Due.is("36: INDEX", x.count(8), 2);
        Due.is("36: NULL", x.get(3, 0, 2), LEAST);
        Due.is("36: NULL", x.count(8), 1);
        Due.is("36: INDEX below 0", x.get(0, 0, -1), LEAST);
        Due.is("36: INDEX below 0", x.count(8), 2);
        Due.is("36: no sheet", x.get(4, 0, 0), LEAST);
        Due.is("36: no form", x.get(3, 3, 0), LEAST);
        Due.is("36: BAD is no finding", x.count(8), 2);
    }

    private static ChestnutSticks numbered() {
        ChestnutSticks x = new ChestnutSticks();
        x.sheet(0, 1, 6);
        x.sheet(1, 1, 4);
        x.sheet(2, 2, 6);
        for (int i = 0; i < 6; i++) {
            x.lay(0, 1, i, i + 1);
        }
        return x;
    }

    private static void row(ChestnutSticks x, int s, int... want) {
        for (int i = 0; i < want.length; i++) {
            Due.is("37: sheet " + s + ", item " + i, x.get(s, 1, i), want[i]);
        }
    }

    private static void copy() {
        ChestnutSticks x = numbered();
        Due.is("37: to another", x.copy(0, 2, 1, 1, 3), 1);
        row(x, 1, 0, 3, 4, 5);
        row(x, 0, 1, 2, 3, 4, 5, 6);
        Due.is("37: forth in itself", x.copy(0, 0, 0, 2, 4), 1);
        row(x, 0, 1, 2, 1, 2, 3, 4);
        x = numbered();
        Due.is("37: back in itself", x.copy(0, 2, 0, 0, 4), 1);
        row(x, 0, 3, 4, 5, 6, 5, 6);
        Due.is("37: none", x.copy(0, 6, 1, 4, 0), 1);
        finding(x, "37: none, behind the end", x.copy(0, 7, 1, 0, 0), 2);
        finding(x, "37: none, behind the other's end", x.copy(0, 0, 1, 5, 0), 2);
        finding(x, "37: not so many", x.copy(0, 3, 1, 0, 4), 2);
        finding(x, "37: not so many there", x.copy(0, 0, 1, 1, 4), 2);
        finding(x, "37: i below 0", x.copy(0, -1, 1, 0, 1), 2);
        finding(x, "37: j below 0", x.copy(0, 0, 1, -1, 1), 2);
        finding(x, "37: n below 0", x.copy(0, 1, 1, 1, -1), 2);
        finding(x, "37: sums that wrap", x.copy(0, 1, 1, 1, Integer.MAX_VALUE), 2);
        finding(x, "37: sums that wrap", x.copy(0, Integer.MAX_VALUE, 1, 1, 1), 2);
        row(x, 0, 3, 4, 5, 6, 5, 6);
        row(x, 1, 0, 0, 0, 0);
        finding(x, "37: STORE", x.copy(0, 0, 2, 0, 1), 4);
        finding(x, "37: STORE ahead of INDEX", x.copy(2, -1, 0, 0, 1), 4);
        finding(x, "37: STORE of none", x.copy(2, 0, 0, 0, 0), 4);
        finding(x, "37: NULL", x.copy(3, 0, 0, 0, 1), 1);
        x.get(0, 0, 0);
        finding(x, "37: NULL there", x.copy(0, 0, 3, 0, 1), 1);
        x.get(0, 0, 0);
        finding(x, "37: NULL ahead of INDEX", x.copy(0, -1, 3, 0, 1), 1);
        x.get(0, 0, 0);
        Due.is("37: BAD", x.copy(4, 0, 0, 0, 1), -2);
        Due.is("37: BAD", x.copy(-1, 0, 0, 0, 1), -2);
        Due.is("37: BAD ahead of NULL", x.copy(3, 0, 4, 0, 1), -2);
        Due.is("37: BAD", x.copy(0, 0, -1, 0, 1), -2);
        Due.is("37: BAD is no finding", x.count(8), 3);
    }

    private static void write() {
        ChestnutSticks x = Due.tree("00000");
        x.stick(0, 1, 3);
        Due.is("38: BAD", x.write(4), -2);
        Due.is("38: BAD", x.write(-1), -2);
        finding(x, "38: NULL", x.write(0), 1);
        x.sheet(0, 1, 5);
        x.lay(0, 1, 0, 7);
        Due.is("38: no throws", x.write(0), 0);
        Due.is("38: as it was", x.get(0, 1, 0), 7);
        x.toss(0, 0, 0);
        x.toss(0, 0, 47);
        x.toss(0, 0, 2);
        x.lay(0, 1, 3, 9);
        Due.is("38: as many as throws", x.write(0), 3);
        row(x, 0, 3, 0, 2, 9, 0);
        x.sheet(1, 1, 2);
        Due.is("38: as many as items", x.write(1), 2);
        row(x, 1, 3, 0);
        x.sheet(2, 2, 0);
        Due.is("38: no items", x.write(2), 0);
    }
}
