import java.math.BigInteger;
import java.util.ArrayList;
import java.util.List;
import java.util.TreeMap;

/**
 * The document a second time, with the whole Java library and by the longest way (all lots, all gales,
 * all seconds are tried), so that a slip in the class is not likely to stand here as well.
 */
final class Model {
    static final int BAD = -2, NOT = -3, FULL = -4, NONE = -1;
    private static final long LEAST = Long.MIN_VALUE;

    private final StringBuilder text = new StringBuilder();
    private final int[][] sticks = {{3, 1, 0}, {3, 1, 0}, {3, 1, 0}, {3, 1, 0}};
    private final int[] set = {0, 20, 1, 0, 5, 4};
    private int seed = 1;
    private final int[] stands = new int[4];
    private final List<int[]> tosses = new ArrayList<>();
    private final List<int[]> throwers = new ArrayList<>();
    private final List<int[]> seen = new ArrayList<>();
    private final Object[] sheets = new Object[4];
    private int finding = 0;

    /** What stands behind some THROWS. */
    private static final class Stand {
        final TreeMap<Integer, Integer> up = new TreeMap<>();
        final TreeMap<Integer, Integer> lodged = new TreeMap<>();
        final List<Integer> brought = new ArrayList<>();
        final List<Boolean> done = new ArrayList<>();
        final int[] has = new int[4];
        int ripe;
        int green;
        int lots;
    }

    private static boolean in(int v, int least, int most) {
        return v >= least && v <= most;
    }

    int type(int b) {
        if (!in(b, 0, 255)) return BAD;
        if (text.length() == 53) return FULL;
        text.append((char) b);
        return text.length();
    }

    int wipe() {
        int n = text.length();
        text.setLength(0);
        return n;
    }

    int undo() {
        if (text.length() == 0) return NOT;
        text.setLength(text.length() - 1);
        return text.length();
    }

    /** Whether a text might be gone on with (a seventh row may begin, but has no byte). */
    private static boolean mayGoOn(String t) {
        if (!t.matches("[0-9.;]*")) return false;
        String[] rows = t.split(";", -1);
        int last = rows.length - 1;
        if (last == 0) return t.length() <= 8;
        int w = rows[0].length();
        if (w < 1 || w > 8 || last > 6) return false;
        for (int r = 1; r < last; r++) {
            if (rows[r].length() != w) return false;
        }
        return rows[last].length() <= (last == 6 ? 0 : w);
    }

    private static boolean isWhole(String t) {
        if (t.isEmpty()) return true;
        String[] rows = t.split(";", -1);
        if (rows.length > 6 || rows[0].isEmpty()) return false;
        for (String row : rows) {
            if (row.length() != rows[0].length()) return false;
        }
        return true;
    }

    int fault() {
        String t = text.toString();
        for (int p = 0; p < t.length(); p++) {
            if (!mayGoOn(t.substring(0, p + 1))) return p;
        }
        return isWhole(t) ? NONE : t.length();
    }

    /** CELLS with their signs. */
    private TreeMap<Integer, Character> cells() {
        TreeMap<Integer, Character> all = new TreeMap<>();
        if (fault() != NONE || text.length() == 0) return all;
        String[] rows = text.toString().split(";", -1);
        for (int r = 0; r < rows.length; r++) {
            for (int c = 0; c < rows[r].length(); c++) all.put(8 * r + c, rows[r].charAt(c));
        }
        return all;
    }

    private TreeMap<Integer, Integer> balls(int day) {
        TreeMap<Integer, Integer> all = new TreeMap<>();
        cells().forEach((cell, sign) -> {
            if (sign != '.') all.put(cell, Math.max(0, sign - '0' - day / 3));
        });
        return all;
    }

    int stick(int stick, int what, int v) {
        int[][] ranges = {{1, 9}, {1, 3}, {0, 16}};
        if (!in(stick, 0, 3) || !in(what, 0, 2) || !in(v, ranges[what][0], ranges[what][1])) return BAD;
        int was = sticks[stick][what];
        sticks[stick][what] = v;
        return was;
    }

    int set(int what, int v) {
        int[] most = {8, 29, 9, 1, 9, 16};
        if (!in(what, 0, 5) || !in(v, 0, most[what])) return BAD;
        int was = set[what];
        set[what] = v;
        return was;
    }

    int seed(int v) {
        int was = (seed >> 16) & 0xffff;
        seed = v;
        return was;
    }

    int stands(int kid, int column) {
        if (!in(kid, 0, 3) || !in(column, 0, 7)) return BAD;
        int was = stands[kid];
        stands[kid] = column;
        return was;
    }

    int read(int s) {
        if (!in(s, 0, 3)) return BAD;
        if (sheets[s] == null) return find(1);
        for (int kid = 0; kid < 4; kid++) {
            if (kid >= sizeOf(s) || !in(item(s, kid), 0, 7)) return kid;
            stands[kid] = item(s, kid);
        }
        return 4;
    }

    int toss(int kid, int stick, int cell) {
        if (!in(kid, 0, 3) || !in(stick, 0, 3) || !in(cell, 0, 47)) return BAD;
        if (tosses.size() == 20) return FULL;
        tosses.add(new int[] {kid, stick, cell});
        return tosses.size();
    }

    int back() {
        if (tosses.isEmpty()) return NOT;
        tosses.remove(tosses.size() - 1);
        return tosses.size();
    }

    private int lot(Stand st, int m) {
        st.lots = (int) (1103515245L * st.lots + 12345L);
        return ((st.lots >> 16) & 0xffff) % m;
    }

    /** The side to which a throw goes by a lot. */
    private int side(int lot) {
        return lot < set[0] ? -1 : lot >= 16 - set[0] ? 1 : 0;
    }

    private List<Integer> struck(int stick, int cell, int side) {
        List<Integer> all = new ArrayList<>();
        for (int more = 0; more < sticks[stick][1]; more++) {
            int column = cell % 8 + side + more;
            if (in(column, 0, 7)) all.add(cell / 8 * 8 + column);
        }
        return all;
    }

    private int ownerOf(int kid, int column) {
        if (set[3] == 0) return kid;
        for (int far = 0; far < 8; far++) {
            for (int k = 0; k < 4; k++) {
                if (stands[k] == column - far || stands[k] == column + far) return k;
            }
        }
        throw new IllegalStateException();
    }

    private Stand behind(int k, int from) {
        Stand st = new Stand();
        st.lots = from;
        st.up.putAll(balls(set[1]));
        for (int[] t : tosses.subList(0, k)) {
            boolean done = cells().containsKey(t[2]) && !st.lodged.containsKey(t[1]);
            st.done.add(done);
            st.brought.add(done ? throwOne(st, t[0], t[1], t[2]) : 0);
        }
        return st;
    }

    private int throwOne(Stand st, int kid, int stick, int cell) {
        int side = side(lot(st, 16));
        List<Integer> struck = struck(stick, cell, side);
        int brought = 0;
        for (int c : struck) {
            Integer hangs = st.up.get(c);
            if (hangs != null && hangs < sticks[stick][0]) {
                st.up.remove(c);
                brought++;
                if (hangs <= 2) {
                    st.ripe++;
                    st.has[ownerOf(kid, c % 8)]++;
                } else {
                    st.green++;
                }
            }
        }
        st.lodged.values().removeIf(struck::contains);
        int column = cell % 8 + side;
        boolean lodges = lot(st, 16) < sticks[stick][2];
        int went = cell / 8 * 8 + column;
        if (lodges && in(column, 0, 7) && cells().containsKey(went)) st.lodged.put(stick, went);
        return brought;
    }

    private Stand now() {
        return behind(tosses.size(), seed);
    }

    int judged() {
        return now().done.indexOf(false);
    }

    int state(int k, int what) {
        if (!in(k, 0, tosses.size()) || !in(what, 0, 4)) return BAD;
        Stand st = behind(k, seed);
        int bits = 0;
        for (int stick : st.lodged.keySet()) bits += 1 << stick;
        int last = k == 0 ? 0 : st.brought.get(k - 1);
        return new int[] {st.up.size(), st.ripe, st.green, bits, last}[what];
    }

    int hangs(int cell) {
        if (!cells().containsKey(cell)) return BAD;
        return now().up.getOrDefault(cell, NONE);
    }

    int has(int kid) {
        return in(kid, 0, 3) ? now().has[kid] : BAD;
    }

    /** RIPE (0) or GREEN (1) balls by all sixteen lots. */
    private int byAllLots(Stand st, int stick, int cell, int green) {
        int sum = 0;
        for (int lot = 0; lot < 16; lot++) {
            for (int c : struck(stick, cell, side(lot))) {
                Integer hangs = st.up.get(c);
                if (hangs != null && hangs < sticks[stick][0] && (hangs > 2) == (green == 1)) sum++;
            }
        }
        return sum;
    }

    private static long fraction(long above, long below, int what) {
        long g = BigInteger.valueOf(above).gcd(BigInteger.valueOf(below)).longValueExact();
        return what == 0 ? above / g : below / g;
    }

    long brings(int stick, int cell, int what) {
        if (!in(stick, 0, 3) || !cells().containsKey(cell) || !in(what, 0, 3)) return LEAST + 2;
        return fraction(byAllLots(now(), stick, cell, what / 2), 16, what % 2);
    }

    private int worthIn(Stand st, int stick, int cell) {
        return byAllLots(st, stick, cell, 0) - set[2] * byAllLots(st, stick, cell, 1);
    }

    int worth(int stick, int cell) {
        if (!in(stick, 0, 3) || !cells().containsKey(cell)) return -1000002;
        return worthIn(now(), stick, cell);
    }

    int where(int stick) {
        if (!in(stick, 0, 3)) return BAD;
        Stand st = now();
        int best = NONE;
        for (int cell : cells().descendingKeySet()) {
            if (best == NONE || worthIn(st, stick, cell) >= worthIn(st, stick, best)) best = cell;
        }
        return best;
    }

    int which() {
        Stand st = now();
        int best = NONE;
        int most = Integer.MIN_VALUE;
        for (int stick = 0; stick < 4; stick++) {
            for (int cell : cells().keySet()) {
                int worth = worthIn(st, stick, cell);
                if (!st.lodged.containsKey(stick) && worth > most) {
                    best = stick;
                    most = worth;
                }
            }
        }
        return best;
    }

    int frees(int stick, int cell, int other) {
        if (!in(stick, 0, 3) || !cells().containsKey(cell) || !in(other, 0, 3)) return BAD;
        Integer lodged = now().lodged.get(other);
        if (lodged == null) return NOT;
        int sum = 0;
        for (int lot = 0; lot < 16; lot++) {
            if (struck(stick, cell, side(lot)).contains(lodged)) sum++;
        }
        return sum;
    }

    long lie(int day, int what) {
        if (!in(day, 0, 12) || !in(what, 0, 1)) return LEAST + 2;
        List<TreeMap<Integer, Integer>> nights = new ArrayList<>();
        for (int night = 0; night < day; night++) nights.add(balls(night));
        long sum = 0;
        long all = 0;
        for (int gales = 0; gales < 1 << day; gales++) {
            long weight = 1;
            long fallen = 0;
            for (int night = 0; night < day; night++) {
                boolean gale = (gales >> night & 1) == 1;
                weight *= gale ? set[5] : 16 - set[5];
                if (gale) {
                    for (var ball : nights.get(night).entrySet()) {
                        if (ball.getValue() < set[4]) fallen |= 1L << ball.getKey();
                    }
                }
            }
            sum += weight * Long.bitCount(fallen);
            all += weight;
        }
        return fraction(sum, all, what);
    }

    int ripe(int day) {
        if (!in(day, 0, 29)) return BAD;
        return (int) balls(day).values().stream().filter(h -> h <= 2).count();
    }

    /** The latest DAY ahead with more for one alone; NONE. */
    private int better(int[] v, int day, int n) {
        for (int ahead = day - 1; ahead >= 0; ahead--) {
            if ((double) v[ahead] > v[day] / (double) n + 1e-9) return ahead;
        }
        return NONE;
    }

    private int[] values() {
        int[] v = new int[30];
        for (int day = 0; day < 30; day++) v[day] = ripe(day);
        return v;
    }

    int rests(int n) {
        if (!in(n, 2, 6)) return BAD;
        int[] v = values();
        int bits = 0;
        for (int day = 0; day < 30; day++) {
            if (better(v, day, n) == NONE) bits += 1 << day;
        }
        return bits;
    }

    int ends(int n, int what) {
        if (!in(n, 2, 6) || !in(what, 0, 1)) return BAD;
        int[] v = values();
        int day = 0;
        for (int d = 29; d >= 0; d--) {
            if (v[d] >= v[day]) day = d;
        }
        // from the last of the greatest down to the first of them
        for (int d = 29; d >= 0; d--) {
            if (v[d] == v[day]) day = Math.min(day, d);
        }
        while (better(v, day, n) != NONE) day = better(v, day, n);
        return what == 0 ? day : v[day];
    }

    int thrower(int every, int from) {
        if (!in(every, 1, 20) || !in(from, 0, 19) || from >= every) return BAD;
        if (throwers.size() == 3) return FULL;
        throwers.add(new int[] {every, from});
        return throwers.size();
    }

    int gone() {
        int n = throwers.size();
        throwers.clear();
        return n;
    }

    private boolean[] seconds() {
        boolean[] thrown = new boolean[30000];
        for (int[] t : throwers) {
            for (int s = t[1]; s < thrown.length; s += t[0]) thrown[s] = true;
        }
        return thrown;
    }

    private static boolean isHit(boolean[] thrown, int s, int r) {
        for (int i = s; i < s + r; i++) {
            if (thrown[i]) return true;
        }
        return false;
    }

    int run(int second, int r) {
        if (!in(second, 0, 9999) || !in(r, 1, 20)) return BAD;
        boolean[] thrown = seconds();
        for (int s = second; s < second + 8000; s++) {
            if (!isHit(thrown, s, r)) return s;
        }
        return NONE;
    }

    int hit(int r, int what) {
        if (!in(r, 1, 20) || !in(what, 0, 1)) return BAD;
        int round = 1;
        while (!isMultiple(round)) round++;
        boolean[] thrown = seconds();
        int hits = 0;
        for (int s = 0; s < round; s++) {
            if (isHit(thrown, s, r)) hits++;
        }
        return what == 0 ? hits : round;
    }

    private boolean isMultiple(int round) {
        return throwers.stream().allMatch(t -> round % t[0] == 0);
    }

    int seen(int throwing, int balls) {
        if (!in(throwing, 0, 19) || !in(balls, 0, 9)) return BAD;
        if (seen.size() == 8) return FULL;
        seen.add(new int[] {throwing, balls});
        return seen.size();
    }

    int forget() {
        int n = seen.size();
        seen.clear();
        return n;
    }

    int seeds() {
        int bits = 0;
        for (int from = 0; from <= 30; from++) {
            List<Integer> brought = behind(tosses.size(), from).brought;
            if (seen.stream().allMatch(p -> p[0] >= brought.size() || brought.get(p[0]) == p[1])) bits |= 1 << from;
        }
        return bits;
    }

    private int find(int number) {
        finding = number;
        return -10 - number;
    }

    private int formOf(int s) {
        return sheets[s] instanceof byte[] ? 0 : sheets[s] instanceof short[] ? 1 : 2;
    }

    private int sizeOf(int s) {
        return java.lang.reflect.Array.getLength(sheets[s]);
    }

    private int item(int s, int i) {
        return java.lang.reflect.Array.getInt(sheets[s], i);
    }

    private void put(int s, int i, int v) {
        switch (formOf(s)) {
            case 0 -> ((byte[]) sheets[s])[i] = (byte) v;
            case 1 -> ((short[]) sheets[s])[i] = (short) v;
            default -> ((int[]) sheets[s])[i] = v;
        }
    }

    int sheet(int s, int form, int n) {
        if (!in(s, 0, 3) || !in(form, 0, 2) || n > 60) return BAD;
        if (n < 0) return find(5);
        sheets[s] = form == 0 ? new byte[n] : form == 1 ? new short[n] : new int[n];
        return n;
    }

    int lose(int s) {
        if (!in(s, 0, 3)) return BAD;
        if (sheets[s] == null) return find(1);
        int n = sizeOf(s);
        sheets[s] = null;
        return n;
    }

    private int itemFinding(int s, int form, int i) {
        return sheets[s] == null ? 1 : formOf(s) != form ? 3 : !in(i, 0, sizeOf(s) - 1) ? 2 : 0;
    }

    int lay(int s, int form, int i, int v) {
        if (!in(s, 0, 3) || !in(form, 0, 2)) return BAD;
        if (itemFinding(s, form, i) != 0) return find(itemFinding(s, form, i));
        put(s, i, v);
        return 1;
    }

    int get(int s, int form, int i) {
        if (!in(s, 0, 3) || !in(form, 0, 2)) return Integer.MIN_VALUE;
        if (itemFinding(s, form, i) != 0) {
            find(itemFinding(s, form, i));
            return Integer.MIN_VALUE;
        }
        return item(s, i);
    }

    int copy(int s, int i, int t, int j, int n) {
        if (!in(s, 0, 3) || !in(t, 0, 3)) return BAD;
        try {
            System.arraycopy(sheets[s], i, sheets[t], j, n);
            return 1;
        } catch (NullPointerException e) {
            return find(1);
        } catch (ArrayStoreException e) {
            return find(4);
        } catch (IndexOutOfBoundsException e) {
            return find(2);
        }
    }

    int write(int s) {
        if (!in(s, 0, 3)) return BAD;
        if (sheets[s] == null) return find(1);
        List<Integer> brought = now().brought;
        int n = Math.min(sizeOf(s), brought.size());
        for (int i = 0; i < n; i++) put(s, i, brought.get(i));
        return n;
    }

    int count(int what) {
        return switch (what) {
            case 0 -> cells().size();
            case 1 -> balls(0).size();
            case 2 -> text.length();
            case 3 -> tosses.size();
            case 4 -> (int) now().done.stream().filter(d -> d).count();
            case 5 -> throwers.size();
            case 6 -> seen.size();
            case 7 -> set[1];
            case 8 -> finding;
            default -> BAD;
        };
    }

    long digest() {
        List<Long> all = new ArrayList<>();
        for (int what = 0; what <= 7; what++) all.add((long) count(what));
        all.add((long) fault());
        all.add((long) judged());
        for (int what = 0; what <= 4; what++) all.add((long) state(tosses.size(), what));
        for (int kid = 0; kid <= 3; kid++) all.add((long) has(kid));
        for (int stick = 0; stick <= 3; stick++) {
            for (int what = 0; what <= 3; what++) all.add(brings(stick, 9, what));
            all.add((long) worth(stick, 9));
            all.add((long) where(stick));
        }
        all.addAll(List.of((long) which(), (long) frees(0, 9, 1), lie(6, 0), lie(6, 1)));
        all.addAll(List.of((long) ripe(0), (long) ripe(29), (long) rests(3)));
        all.addAll(List.of((long) ends(3, 0), (long) ends(3, 1), (long) run(5, 3)));
        all.addAll(List.of((long) hit(3, 0), (long) hit(3, 1), (long) seeds()));
        long h = 17;
        for (long one : all) h = 31 * h + one;
        return h;
    }
}
