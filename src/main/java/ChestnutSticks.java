/**
 * Sticks thrown up into a chestnut tree: what they bring down, whose it is, when to come for it.
 * What each call answers stands in the document's promises; README.md tells how to use the class.
 */
public final class ChestnutSticks {
    public static final int NONE = -1, BAD = -2, NOT = -3, FULL = -4;

    private static final int ROWS = 6, COLUMNS = 8, CELLS = 48, TEXT_MOST = 53;
    private static final int STICKS = 4, KIDS = 4, DAYS = 30, RIPE_MOST = 2;
    private static final int THROWS_MOST = 20, THROWERS_MOST = 3, SEEN_MOST = 8, SEEDS_TRIED = 31;
    private static final int SHEETS = 4, FORMS = 3, ITEMS_MOST = 60;
    private static final int SIXTEEN = 16;

    private static final int HEAVY = 0, LONG = 1, LODGES = 2, STICK_WHATS = 3;
    private static final int[] STICK_LEAST = {1, 1, 0};
    private static final int[] STICK_MOST = {9, 3, 16};

    private static final int SLIP = 0, DAY = 1, PRICE = 2, LAW = 3, GALE = 4, ODDS = 5, RULE_WHATS = 6;
    private static final int[] RULE_MOST = {8, 29, 9, 1, 9, 16};

    private static final int NULL = 1, INDEX = 2, CAST = 3, STORE = 4, SIZE = 5;
    private static final int NO_CELL = -2;

    private static final long LONG_BAD = -9223372036854775806L;
    private static final int NUMBER_BAD = -1000002, ITEM_BAD = -2147483648;

    private final Tree tree = new Tree();
    private final Sticks sticks = new Sticks();
    private final Rules rules = new Rules();
    private final Kids kids = new Kids();
    private final Throws tosses = new Throws();
    private final Play play = new Play(tree, sticks, rules, kids, tosses);
    private final Season season = new Season(tree);
    private final Throwers throwers = new Throwers();
    private final Sightings sightings = new Sightings();
    private final Sheets sheets = new Sheets();

    public ChestnutSticks() {
    }

    // ---- tree, sticks

    public int type(int b) {
        return tree.append(b);
    }

    public int wipe() {
        return tree.empty();
    }

    public int undo() {
        return tree.removeLast();
    }

    public int fault() {
        return tree.faultPlace();
    }

    public int stick(int stick, int what, int v) {
        return sticks.change(stick, what, v);
    }

    public int set(int what, int v) {
        return rules.change(what, v);
    }

    public int seed(int v) {
        return rules.changeSeed(v) >>> 16;
    }

    public int stands(int kid, int column) {
        return kids.place(kid, column);
    }

    public int read(int s) {
        if (!isBelow(s, SHEETS)) {
            return BAD;
        }
        if (sheets.isLost(s)) {
            return sheets.find(NULL);
        }
        int most = Math.min(KIDS, sheets.sizeOf(s));
        int kid = 0;
        while (kid < most && kids.place(kid, sheets.itemOf(s, kid)) != BAD) {
            kid++;
        }
        return kid;
    }

    // ---- throws

    public int toss(int kid, int stick, int cell) {
        return tosses.append(kid, stick, cell);
    }

    public int back() {
        return tosses.removeLast();
    }

    public int judged() {
        play.replayAll();
        return play.firstNotDone();
    }

    public int state(int k, int what) {
        if (k < 0 || k > tosses.size() || !isBelow(what, 5)) {
            return BAD;
        }
        play.replay(k, rules.seedNow());
        switch (what) {
            case 0:
                return play.ballsUp();
            case 1:
                return play.ripeDown();
            case 2:
                return play.greenDown();
            case 3:
                return play.lodgedBits();
            default:
                return play.broughtBy(k - 1);
        }
    }

    public int hangs(int cell) {
        if (!tree.isCell(cell)) {
            return BAD;
        }
        play.replayAll();
        return play.hangsNow(cell);
    }

    public int has(int kid) {
        if (!isBelow(kid, KIDS)) {
            return BAD;
        }
        play.replayAll();
        return play.ripeOf(kid);
    }

    // ---- where, with which

    public long brings(int stick, int cell, int what) {
        if (!isBelow(stick, STICKS) || !tree.isCell(cell) || !isBelow(what, 4)) {
            return LONG_BAD;
        }
        play.replayAll();
        boolean below = what == 1 || what == 3;
        return lowest(play.sixteenths(stick, cell, what < 2), SIXTEEN, below);
    }

    public int worth(int stick, int cell) {
        if (!isBelow(stick, STICKS) || !tree.isCell(cell)) {
            return NUMBER_BAD;
        }
        play.replayAll();
        return play.worthOf(stick, cell);
    }

    public int where(int stick) {
        if (!isBelow(stick, STICKS)) {
            return BAD;
        }
        play.replayAll();
        return play.bestCell(stick);
    }

    public int which() {
        play.replayAll();
        int best = NONE;
        int bestWorth = 0;
        for (int stick = 0; stick < STICKS; stick++) {
            int cell = play.lodgedIn(stick) == NONE ? play.bestCell(stick) : NONE;
            if (cell != NONE) {
                int worth = play.worthOf(stick, cell);
                if (best == NONE || worth > bestWorth) {
                    best = stick;
                    bestWorth = worth;
                }
            }
        }
        return best;
    }

    public int frees(int stick, int cell, int other) {
        if (!isBelow(stick, STICKS) || !tree.isCell(cell) || !isBelow(other, STICKS)) {
            return BAD;
        }
        play.replayAll();
        int lodged = play.lodgedIn(other);
        return lodged == NONE ? NOT : play.sixteenthsOfStriking(stick, cell, lodged);
    }

    // ---- nights, who comes when

    public long lie(int day, int what) {
        if (day < 0 || day > 12 || !isBelow(what, 2)) {
            return LONG_BAD;
        }
        long above = season.fallenTimesPower(day, rules.now(GALE), rules.now(ODDS));
        return lowest(above, power(SIXTEEN, day), what == 1);
    }

    public int ripe(int day) {
        return isBelow(day, DAYS) ? tree.ripeOn(day) : BAD;
    }

    public int rests(int n) {
        return n < 2 || n > 6 ? BAD : season.restBits(n);
    }

    public int ends(int n, int what) {
        if (n < 2 || n > 6 || !isBelow(what, 2)) {
            return BAD;
        }
        int day = season.endOf(n);
        return what == 0 ? day : tree.ripeOn(day);
    }

    // ---- runners

    public int thrower(int every, int from) {
        return throwers.append(every, from);
    }

    public int gone() {
        return throwers.empty();
    }

    public int run(int second, int r) {
        if (second < 0 || second > 9999 || r < 1 || r > 20) {
            return BAD;
        }
        return throwers.firstFree(second, r);
    }

    public int hit(int r, int what) {
        if (r < 1 || r > 20 || !isBelow(what, 2)) {
            return BAD;
        }
        return what == 0 ? throwers.hitsInRound(r) : throwers.roundLength();
    }

    // ---- seen

    public int seen(int throwing, int balls) {
        return sightings.append(throwing, balls);
    }

    public int forget() {
        return sightings.empty();
    }

    public int seeds() {
        int bits = 0;
        for (int tried = 0; tried < SEEDS_TRIED; tried++) {
            play.replay(tosses.size(), tried);
            if (sightings.fit(play, tosses.size())) {
                bits |= 1 << tried;
            }
        }
        return bits;
    }

    // ---- sheets

    public int sheet(int s, int form, int n) {
        if (!isBelow(s, SHEETS) || !isBelow(form, FORMS) || n > ITEMS_MOST) {
            return BAD;
        }
        if (n < 0) {
            return sheets.find(SIZE);
        }
        sheets.makeNew(s, form, n);
        return n;
    }

    public int lose(int s) {
        if (!isBelow(s, SHEETS)) {
            return BAD;
        }
        return sheets.isLost(s) ? sheets.find(NULL) : sheets.makeLost(s);
    }

    public int lay(int s, int form, int i, int v) {
        if (!isBelow(s, SHEETS) || !isBelow(form, FORMS)) {
            return BAD;
        }
        int number = sheets.whyNot(s, form, i);
        if (number != 0) {
            return sheets.find(number);
        }
        sheets.put(s, i, v);
        return 1;
    }

    public int get(int s, int form, int i) {
        if (!isBelow(s, SHEETS) || !isBelow(form, FORMS)) {
            return ITEM_BAD;
        }
        int number = sheets.whyNot(s, form, i);
        if (number != 0) {
            sheets.find(number);
            return ITEM_BAD;
        }
        return sheets.itemOf(s, i);
    }

    public int copy(int s, int i, int t, int j, int n) {
        if (!isBelow(s, SHEETS) || !isBelow(t, SHEETS)) {
            return BAD;
        }
        if (sheets.isLost(s) || sheets.isLost(t)) {
            return sheets.find(NULL);
        }
        if (sheets.formOf(s) != sheets.formOf(t)) {
            return sheets.find(STORE);
        }
        if (!sheets.hasRun(s, i, n) || !sheets.hasRun(t, j, n)) {
            return sheets.find(INDEX);
        }
        sheets.move(s, i, t, j, n);
        return 1;
    }

    public int write(int s) {
        if (!isBelow(s, SHEETS)) {
            return BAD;
        }
        if (sheets.isLost(s)) {
            return sheets.find(NULL);
        }
        play.replayAll();
        int written = Math.min(sheets.sizeOf(s), tosses.size());
        for (int i = 0; i < written; i++) {
            sheets.put(s, i, play.broughtBy(i));
        }
        return written;
    }

    public int count(int what) {
        switch (what) {
            case 0:
                return tree.cellCount();
            case 1:
                return tree.ballCount();
            case 2:
                return tree.textLength();
            case 3:
                return tosses.size();
            case 4:
                play.replayAll();
                return play.doneCount();
            case 5:
                return throwers.size();
            case 6:
                return sightings.size();
            case 7:
                return rules.now(DAY);
            case 8:
                return sheets.latestFinding();
            default:
                return BAD;
        }
    }

    public long digest() {
        long h = 17;
        for (int what = 0; what < 8; what++) {
            h = 31 * h + count(what);
        }
        h = 31 * h + fault();
        h = 31 * h + judged();
        for (int what = 0; what < 5; what++) {
            h = 31 * h + state(tosses.size(), what);
        }
        for (int kid = 0; kid < KIDS; kid++) {
            h = 31 * h + has(kid);
        }
        for (int stick = 0; stick < STICKS; stick++) {
            for (int what = 0; what < 4; what++) {
                h = 31 * h + brings(stick, 9, what);
            }
            h = 31 * h + worth(stick, 9);
            h = 31 * h + where(stick);
        }
        h = 31 * h + which();
        h = 31 * h + frees(0, 9, 1);
        h = 31 * h + lie(6, 0);
        h = 31 * h + lie(6, 1);
        h = 31 * h + ripe(0);
        h = 31 * h + ripe(29);
        h = 31 * h + rests(3);
        h = 31 * h + ends(3, 0);
        h = 31 * h + ends(3, 1);
        h = 31 * h + run(5, 3);
        h = 31 * h + hit(3, 0);
        h = 31 * h + hit(3, 1);
        return 31 * h + seeds();
    }

    private static boolean isBelow(int number, int bound) {
        return number >= 0 && number < bound;
    }

    private static long power(long base, int n) {
        long product = 1;
        for (int i = 0; i < n; i++) {
            product *= base;
        }
        return product;
    }

    /** Every mean here has a power of two below, so halving alone brings it to its lowest terms. */
    private static long lowest(long above, long powerOfTwo, boolean below) {
        long top = above;
        long bottom = powerOfTwo;
        for (int halvings = 0; halvings < 64 && top % 2 == 0 && bottom % 2 == 0; halvings++) {
            top /= 2;
            bottom /= 2;
        }
        return below ? bottom : top;
    }

    /** The text and what it tells: its FAULT, or how fast each ball hangs at first. */
    private static final class Tree {
        private final int[] text = new int[TEXT_MOST];
        private final int[] atFirst = new int[CELLS];
        private int length = 0;
        private int fault = NONE;

        Tree() {
            clearCells();
        }

        int append(int b) {
            if (!isBelow(b, 256)) {
                return BAD;
            }
            if (!isBelow(length, TEXT_MOST)) {
                return FULL;
            }
            text[length] = b;
            length++;
            parse();
            return length;
        }

        int empty() {
            int had = length;
            length = 0;
            parse();
            return had;
        }

        int removeLast() {
            if (length <= 0) {
                return NOT;
            }
            length--;
            parse();
            return length;
        }

        int faultPlace() {
            return fault;
        }

        int textLength() {
            return length;
        }

        boolean isCell(int cell) {
            return isBelow(cell, CELLS) && atFirst[cell] != NO_CELL;
        }

        /** The CELL of a row and a column; NONE where there is no such CELL. */
        int cellAt(int row, int column) {
            if (!isBelow(row, ROWS) || !isBelow(column, COLUMNS)) {
                return NONE;
            }
            int cell = COLUMNS * row + column;
            return isBelow(cell, CELLS) && atFirst[cell] != NO_CELL ? cell : NONE;
        }

        boolean hasBall(int cell) {
            return isBelow(cell, CELLS) && atFirst[cell] >= 0;
        }

        int hangsOn(int cell, int day) {
            return isBelow(cell, CELLS) ? Math.max(0, atFirst[cell] - day / 3) : 0;
        }

        int cellCount() {
            int cells = 0;
            for (int cell = 0; cell < CELLS; cell++) {
                cells += isCell(cell) ? 1 : 0;
            }
            return cells;
        }

        int ballCount() {
            int balls = 0;
            for (int cell = 0; cell < CELLS; cell++) {
                balls += hasBall(cell) ? 1 : 0;
            }
            return balls;
        }

        int ripeOn(int day) {
            int ripe = 0;
            for (int cell = 0; cell < CELLS; cell++) {
                ripe += hasBall(cell) && hangsOn(cell, day) <= RIPE_MOST ? 1 : 0;
            }
            return ripe;
        }

        private void clearCells() {
            for (int cell = 0; cell < CELLS; cell++) {
                atFirst[cell] = NO_CELL;
            }
        }

        private void parse() {
            clearCells();
            fault = fillCells();
            if (fault != NONE) {
                clearCells();
            }
        }

        /** Answers the FAULT; the cells that were filled ahead of it are the caller's to clear. */
        private int fillCells() {
            int row = 0;
            int column = 0;
            int width = COLUMNS;
            for (int place = 0; place < length && place < TEXT_MOST; place++) {
                int b = text[place];
                if (row >= ROWS) {
                    return place;
                }
                if (b == ';') {
                    if (isTooSoon(row, column, width)) {
                        return place;
                    }
                    width = column;
                    row++;
                    column = 0;
                } else {
                    int cell = COLUMNS * row + column;
                    if (!isCellSign(b) || column >= width || !isBelow(cell, CELLS)) {
                        return place;
                    }
                    atFirst[cell] = b == '.' ? NONE : b - '0';
                    column++;
                }
            }
            return length > 0 && isTooSoon(row, column, width) ? length : NONE;
        }

        /** The first row may end behind any column, the others only where the first did. */
        private static boolean isTooSoon(int row, int column, int width) {
            return column == 0 || row > 0 && column < width;
        }

        private static boolean isCellSign(int b) {
            return b == '.' || b >= '0' && b <= '9';
        }
    }

    /** HEAVY, LONG and LODGES of each STICK, in one row. */
    private static final class Sticks {
        private final int[] values = {3, 1, 0, 3, 1, 0, 3, 1, 0, 3, 1, 0};

        int change(int stick, int what, int v) {
            if (!isBelow(stick, STICKS) || !isBelow(what, STICK_WHATS)) {
                return BAD;
            }
            if (v < STICK_LEAST[what] || v > STICK_MOST[what]) {
                return BAD;
            }
            int was = now(stick, what);
            values[STICK_WHATS * stick + what] = v;
            return was;
        }

        int now(int stick, int what) {
            if (!isBelow(stick, STICKS) || !isBelow(what, STICK_WHATS)) {
                return 0;
            }
            return values[STICK_WHATS * stick + what];
        }
    }

    /** SLIP, DAY, PRICE, LAW, GALE, ODDS, and the SEED. */
    private static final class Rules {
        private final int[] values = {0, 20, 1, 0, 5, 4};
        private int seedValue = 1;

        int change(int what, int v) {
            if (!isBelow(what, RULE_WHATS) || v < 0 || v > RULE_MOST[what]) {
                return BAD;
            }
            int was = values[what];
            values[what] = v;
            return was;
        }

        int now(int what) {
            return isBelow(what, RULE_WHATS) ? values[what] : 0;
        }

        int changeSeed(int v) {
            int was = seedValue;
            seedValue = v;
            return was;
        }

        int seedNow() {
            return seedValue;
        }
    }

    /** Where the KIDS stand. */
    private static final class Kids {
        private final int[] columns = new int[KIDS];

        int place(int kid, int column) {
            if (!isBelow(kid, KIDS) || !isBelow(column, COLUMNS)) {
                return BAD;
            }
            int was = columns[kid];
            columns[kid] = column;
            return was;
        }

        int nearest(int column) {
            int best = 0;
            for (int kid = 1; kid < KIDS; kid++) {
                if (Math.abs(columns[kid] - column) < Math.abs(columns[best] - column)) {
                    best = kid;
                }
            }
            return best;
        }
    }

    /** The THROWS as they were told; whether they are done turns out in a Play. */
    private static final class Throws {
        private final int[] kidOf = new int[THROWS_MOST];
        private final int[] stickOf = new int[THROWS_MOST];
        private final int[] cellOf = new int[THROWS_MOST];
        private int size = 0;

        int append(int kid, int stick, int cell) {
            if (!isBelow(kid, KIDS) || !isBelow(stick, STICKS) || !isBelow(cell, CELLS)) {
                return BAD;
            }
            if (!isBelow(size, THROWS_MOST)) {
                return FULL;
            }
            kidOf[size] = kid;
            stickOf[size] = stick;
            cellOf[size] = cell;
            size++;
            return size;
        }

        int removeLast() {
            if (size <= 0) {
                return NOT;
            }
            size--;
            return size;
        }

        int size() {
            return size;
        }

        int kidAt(int i) {
            return isBelow(i, THROWS_MOST) ? kidOf[i] : 0;
        }

        int stickAt(int i) {
            return isBelow(i, THROWS_MOST) ? stickOf[i] : 0;
        }

        int cellNumberAt(int i) {
            return isBelow(i, THROWS_MOST) ? cellOf[i] : NONE;
        }
    }

    /** What stands behind some THROWS. It is played anew for each call, as all rules may change in between. */
    private static final class Play {
        private final Tree tree;
        private final Sticks sticks;
        private final Rules rules;
        private final Kids kids;
        private final Throws tosses;
        private final int[] hanging = new int[CELLS];
        private final int[] lodged = new int[STICKS];
        private final int[] ripeOfKid = new int[KIDS];
        private final int[] brought = new int[THROWS_MOST];
        private int lots = 0;
        private int ripe = 0;
        private int green = 0;
        private int done = 0;
        private int notDone = NONE;

        Play(Tree tree, Sticks sticks, Rules rules, Kids kids, Throws tosses) {
            this.tree = tree;
            this.sticks = sticks;
            this.rules = rules;
            this.kids = kids;
            this.tosses = tosses;
        }

        void replayAll() {
            replay(tosses.size(), rules.seedNow());
        }

        void replay(int k, int seed) {
            begin(seed);
            for (int i = 0; i < k && i < THROWS_MOST; i++) {
                throwOne(i);
            }
        }

        int firstNotDone() {
            return notDone;
        }

        int doneCount() {
            return done;
        }

        int ripeDown() {
            return ripe;
        }

        int greenDown() {
            return green;
        }

        int ripeOf(int kid) {
            return isBelow(kid, KIDS) ? ripeOfKid[kid] : 0;
        }

        int broughtBy(int i) {
            return isBelow(i, THROWS_MOST) ? brought[i] : 0;
        }

        /** By how much the ball in a CELL hangs in DAY; NONE: there is none up. */
        int hangsNow(int cell) {
            return isBelow(cell, CELLS) ? hanging[cell] : NONE;
        }

        /** The CELL in which a STICK lodges; NONE. */
        int lodgedIn(int stick) {
            return isBelow(stick, STICKS) ? lodged[stick] : NONE;
        }

        int ballsUp() {
            int balls = 0;
            for (int cell = 0; cell < CELLS; cell++) {
                balls += hanging[cell] == NONE ? 0 : 1;
            }
            return balls;
        }

        int lodgedBits() {
            int bits = 0;
            for (int stick = 0; stick < STICKS; stick++) {
                bits |= lodged[stick] == NONE ? 0 : 1 << stick;
            }
            return bits;
        }

        /** 16 times the mean of RIPE, or of GREEN, balls that a throw brings. */
        int sixteenths(int stick, int cell, boolean wantsRipe) {
            int slip = rules.now(SLIP);
            return slip * struckBalls(stick, cell, -1, wantsRipe)
                    + (SIXTEEN - 2 * slip) * struckBalls(stick, cell, 0, wantsRipe)
                    + slip * struckBalls(stick, cell, 1, wantsRipe);
        }

        int worthOf(int stick, int cell) {
            return sixteenths(stick, cell, true) - rules.now(PRICE) * sixteenths(stick, cell, false);
        }

        int bestCell(int stick) {
            int best = NONE;
            int bestWorth = 0;
            for (int cell = 0; cell < CELLS; cell++) {
                if (tree.isCell(cell)) {
                    int worth = worthOf(stick, cell);
                    if (best == NONE || worth > bestWorth) {
                        best = cell;
                        bestWorth = worth;
                    }
                }
            }
            return best;
        }

        int sixteenthsOfStriking(int stick, int cell, int target) {
            int slip = rules.now(SLIP);
            int row = cell / COLUMNS;
            int column = cell % COLUMNS;
            int reach = sticks.now(stick, LONG);
            return (strikes(row, column - 1, reach, target) ? slip : 0)
                    + (strikes(row, column, reach, target) ? SIXTEEN - 2 * slip : 0)
                    + (strikes(row, column + 1, reach, target) ? slip : 0);
        }

        private void begin(int seed) {
            lots = seed;
            ripe = 0;
            green = 0;
            done = 0;
            notDone = NONE;
            for (int cell = 0; cell < CELLS; cell++) {
                hanging[cell] = tree.hasBall(cell) ? tree.hangsOn(cell, rules.now(DAY)) : NONE;
            }
            for (int stick = 0; stick < STICKS; stick++) {
                lodged[stick] = NONE;
            }
            for (int kid = 0; kid < KIDS; kid++) {
                ripeOfKid[kid] = 0;
            }
            for (int i = 0; i < THROWS_MOST; i++) {
                brought[i] = 0;
            }
        }

        private int lotOfSixteen() {
            lots = 1103515245 * lots + 12345;
            return (lots >>> 16) % SIXTEEN;
        }

        private void throwOne(int i) {
            int stick = tosses.stickAt(i);
            int cell = tosses.cellNumberAt(i);
            if (!tree.isCell(cell) || lodgedIn(stick) != NONE) {
                notDone = notDone == NONE ? i : notDone;
                return;
            }
            int row = cell / COLUMNS;
            int column = cell % COLUMNS + sideOf(lotOfSixteen());
            bringDown(i, row, column);
            freeSticks(row, column, sticks.now(stick, LONG));
            boolean lodges = lotOfSixteen() < sticks.now(stick, LODGES);
            if (lodges && isBelow(stick, STICKS)) {
                lodged[stick] = tree.cellAt(row, column);
            }
            done++;
        }

        private int sideOf(int lot) {
            int slip = rules.now(SLIP);
            if (lot < slip) {
                return -1;
            }
            return lot >= SIXTEEN - slip ? 1 : 0;
        }

        private void bringDown(int i, int row, int column) {
            int stick = tosses.stickAt(i);
            int heavy = sticks.now(stick, HEAVY);
            int behind = column + sticks.now(stick, LONG);
            for (int c = column; c < behind; c++) {
                int hung = hangsIfStruck(heavy, row, c);
                if (hung != NONE) {
                    takeDown(i, COLUMNS * row + c);
                    if (hung <= RIPE_MOST) {
                        ripe++;
                        give(rules.now(LAW) == 0 ? tosses.kidAt(i) : kids.nearest(c));
                    } else {
                        green++;
                    }
                }
            }
        }

        /** By how much the ball hangs that comes down if a STICK strikes there; NONE: there is no such ball. */
        private int hangsIfStruck(int heavy, int row, int column) {
            int cell = COLUMNS * row + column;
            if (!isBelow(column, COLUMNS) || !isBelow(cell, CELLS) || hanging[cell] >= heavy) {
                return NONE;
            }
            return hanging[cell];
        }

        private void takeDown(int i, int cell) {
            if (isBelow(cell, CELLS) && isBelow(i, THROWS_MOST)) {
                hanging[cell] = NONE;
                brought[i]++;
            }
        }

        private void give(int kid) {
            if (isBelow(kid, KIDS)) {
                ripeOfKid[kid]++;
            }
        }

        private void freeSticks(int row, int column, int reach) {
            for (int other = 0; other < STICKS; other++) {
                if (lodged[other] != NONE && strikes(row, column, reach, lodged[other])) {
                    lodged[other] = NONE;
                }
            }
        }

        private static boolean strikes(int row, int column, int reach, int cell) {
            int cellColumn = cell % COLUMNS;
            return cell / COLUMNS == row && cellColumn >= column && cellColumn < column + reach;
        }

        private int struckBalls(int stick, int cell, int side, boolean wantsRipe) {
            int row = cell / COLUMNS;
            int column = cell % COLUMNS + side;
            int heavy = sticks.now(stick, HEAVY);
            int behind = column + sticks.now(stick, LONG);
            int balls = 0;
            for (int c = column; c < behind; c++) {
                int hung = hangsIfStruck(heavy, row, c);
                balls += hung != NONE && hung <= RIPE_MOST == wantsRipe ? 1 : 0;
            }
            return balls;
        }
    }

    /** The DAYS and nights of THE TREE as it is told, without THROWS. */
    private static final class Season {
        private final Tree tree;
        private final int[] ripe = new int[DAYS];

        Season(Tree tree) {
            this.tree = tree;
        }

        /** The mean of how many fell by the morning of a DAY, times 16 to the power of that DAY. */
        long fallenTimesPower(int day, int gale, int odds) {
            long all = power(SIXTEEN, day);
            long sum = 0;
            for (int cell = 0; cell < CELLS; cell++) {
                if (tree.hasBall(cell)) {
                    int nights = nightsInDanger(cell, day, gale);
                    sum += all - power(SIXTEEN - odds, nights) * power(SIXTEEN, day - nights);
                }
            }
            return sum;
        }

        int restBits(int n) {
            fillRipe();
            int bits = 0;
            for (int day = 0; day < DAYS; day++) {
                bits |= betterAhead(day, n) == NONE ? 1 << day : 0;
            }
            return bits;
        }

        int endOf(int n) {
            fillRipe();
            int day = firstGreatest();
            for (int steps = 0; steps < DAYS; steps++) {
                int ahead = betterAhead(day, n);
                if (ahead == NONE) {
                    return day;
                }
                day = ahead;
            }
            return day;
        }

        private int nightsInDanger(int cell, int day, int gale) {
            int nights = 0;
            for (int night = 0; night < day; night++) {
                nights += tree.hangsOn(cell, night) < gale ? 1 : 0;
            }
            return nights;
        }

        private void fillRipe() {
            for (int day = 0; day < DAYS; day++) {
                ripe[day] = tree.ripeOn(day);
            }
        }

        private int firstGreatest() {
            int best = 0;
            for (int day = 1; day < DAYS; day++) {
                best = ripe[day] > ripe[best] ? day : best;
            }
            return best;
        }

        /** The latest DAY ahead of one on which one alone has more than a part of n on it; NONE: it is a REST. */
        private int betterAhead(int day, int n) {
            int better = NONE;
            for (int ahead = 0; ahead < day && day < DAYS; ahead++) {
                better = n * ripe[ahead] > ripe[day] ? ahead : better;
            }
            return better;
        }
    }

    /** Who throws in which SECONDS. */
    private static final class Throwers {
        private final int[] everyOf = new int[THROWERS_MOST];
        private final int[] fromOf = new int[THROWERS_MOST];
        private int size = 0;

        int append(int every, int from) {
            if (every < 1 || every > 20 || from < 0 || from >= every) {
                return BAD;
            }
            if (!isBelow(size, THROWERS_MOST)) {
                return FULL;
            }
            everyOf[size] = every;
            fromOf[size] = from;
            size++;
            return size;
        }

        int empty() {
            int had = size;
            size = 0;
            return had;
        }

        int size() {
            return size;
        }

        int roundLength() {
            int round = 1;
            for (int i = 0; i < size && i < THROWERS_MOST; i++) {
                round = leastMultiple(round, everyOf[i]);
            }
            return round;
        }

        /** All comes again in each ROUND, so a run that is not free in one never is. */
        int firstFree(int second, int r) {
            int round = roundLength();
            for (int s = second; s < second + round; s++) {
                if (!isHit(s, r)) {
                    return s;
                }
            }
            return NONE;
        }

        int hitsInRound(int r) {
            int round = roundLength();
            int hits = 0;
            for (int s = 0; s < round; s++) {
                hits += isHit(s, r) ? 1 : 0;
            }
            return hits;
        }

        private boolean isHit(int second, int r) {
            for (int i = 0; i < size && i < THROWERS_MOST; i++) {
                int every = everyOf[i];
                int wait = every > 0 ? Math.floorMod(fromOf[i] - second, every) : r;
                if (wait < r) {
                    return true;
                }
            }
            return false;
        }

        private static int leastMultiple(int a, int b) {
            for (int times = 1; times < b; times++) {
                if (b > 0 && a * times % b == 0) {
                    return a * times;
                }
            }
            return a * b;
        }
    }

    /** What was SEEN of THROWS. */
    private static final class Sightings {
        private final int[] throwOf = new int[SEEN_MOST];
        private final int[] ballsOf = new int[SEEN_MOST];
        private int size = 0;

        int append(int throwing, int balls) {
            if (!isBelow(throwing, THROWS_MOST) || !isBelow(balls, 10)) {
                return BAD;
            }
            if (!isBelow(size, SEEN_MOST)) {
                return FULL;
            }
            throwOf[size] = throwing;
            ballsOf[size] = balls;
            size++;
            return size;
        }

        int empty() {
            int had = size;
            size = 0;
            return had;
        }

        int size() {
            return size;
        }

        /** What was SEEN of a THROW that there is not says nothing against a play. */
        boolean fit(Play play, int tossCount) {
            for (int i = 0; i < size && i < SEEN_MOST; i++) {
                if (throwOf[i] < tossCount && play.broughtBy(throwOf[i]) != ballsOf[i]) {
                    return false;
                }
            }
            return true;
        }
    }

    /** The SHEETS, as rows of one array that is made once, and the latest FINDING. */
    private static final class Sheets {
        private final int[] forms = {NONE, NONE, NONE, NONE};
        private final int[] sizes = new int[SHEETS];
        private final int[] items = new int[SHEETS * ITEMS_MOST];
        private int latest = 0;

        int find(int number) {
            latest = number;
            return -10 - number;
        }

        int latestFinding() {
            return latest;
        }

        boolean isLost(int s) {
            return formOf(s) == NONE;
        }

        int formOf(int s) {
            return isBelow(s, SHEETS) ? forms[s] : NONE;
        }

        int sizeOf(int s) {
            return isBelow(s, SHEETS) ? sizes[s] : 0;
        }

        /** The number of the FINDING that keeps from item i of a FORM; 0: there is none. */
        int whyNot(int s, int form, int i) {
            if (isLost(s)) {
                return NULL;
            }
            if (formOf(s) != form) {
                return CAST;
            }
            return isBelow(i, sizeOf(s)) ? 0 : INDEX;
        }

        boolean hasRun(int s, int from, int n) {
            return from >= 0 && n >= 0 && from <= sizeOf(s) && n <= sizeOf(s) - from;
        }

        void makeNew(int s, int form, int n) {
            if (isBelow(s, SHEETS) && n >= 0 && n <= ITEMS_MOST) {
                forms[s] = form;
                sizes[s] = n;
                for (int i = 0; i < ITEMS_MOST; i++) {
                    items[ITEMS_MOST * s + i] = 0;
                }
            }
        }

        int makeLost(int s) {
            int had = sizeOf(s);
            if (isBelow(s, SHEETS)) {
                forms[s] = NONE;
                sizes[s] = 0;
            }
            return had;
        }

        int itemOf(int s, int i) {
            return isBelow(s, SHEETS) && isBelow(i, ITEMS_MOST) ? items[ITEMS_MOST * s + i] : 0;
        }

        void put(int s, int i, int v) {
            if (isBelow(s, SHEETS) && isBelow(i, ITEMS_MOST)) {
                items[ITEMS_MOST * s + i] = lowestBits(forms[s], v);
            }
        }

        /** Backwards where the places lie behind, so that no item is written over before it is read. */
        void move(int s, int i, int t, int j, int n) {
            for (int moved = 0; moved < n; moved++) {
                int k = i < j ? n - 1 - moved : moved;
                put(t, j + k, itemOf(s, i + k));
            }
        }

        private static int lowestBits(int form, int v) {
            switch (form) {
                case 0:
                    return (byte) v;
                case 1:
                    return (short) v;
                default:
                    return v;
            }
        }
    }
}
