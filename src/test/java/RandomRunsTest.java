import java.lang.reflect.Method;
import java.util.ArrayList;
import java.util.Comparator;
import java.util.List;
import java.util.Random;

/** Runs of calls by a fixed seed, each answered by the class and by the Model; the first difference of a run is told. */
public final class RandomRunsTest {
    private static final int OBJECTS = 300, CALLS = 512;
    private static final int[] EDGES = {-1, 60, 61, 255, 256, 9999, 10000, Integer.MAX_VALUE, Integer.MIN_VALUE};
    private static final Random RANDOM = new Random(20261118);

    public static void main(String[] args) throws Exception {
        Method[] face = ChestnutSticks.class.getDeclaredMethods();
        List<Method> calls = new ArrayList<>();
        for (Method m : face) {
            if (java.lang.reflect.Modifier.isPublic(m.getModifiers())) calls.add(m);
        }
        calls.sort(Comparator.comparing(Method::getName));
        Due.that("the face has 39 methods", calls.size() == 39);
        for (int i = 0; i < OBJECTS; i++) {
            oneRun(calls, i);
        }
        Due.end("RandomRunsTest");
    }

    private static void oneRun(List<Method> calls, int run) throws Exception {
        ChestnutSticks x = new ChestnutSticks();
        Model model = new Model();
        List<String> told = new ArrayList<>();
        int before = Due.wrongSoFar();
        int made = 0;
        while (made < CALLS && Due.wrongSoFar() == before) {
            if (RANDOM.nextInt(60) == 0 || made == 0) {
                made += plant(x, model, told);
            } else {
                Method m = calls.get(RANDOM.nextInt(calls.size()));
                // these would leave next to nothing standing
                boolean clears = List.of("wipe", "undo", "type", "back", "gone", "forget").contains(m.getName());
                if (clears && RANDOM.nextInt(4) != 0) continue;
                boolean dear = m.getName().equals("digest") || m.getName().equals("lie");
                if (dear && RANDOM.nextInt(4) != 0) continue;
                compare(x, model, m, arguments(m), told, run);
                made++;
            }
        }
    }

    private static void compare(ChestnutSticks x, Model model, Method m, Object[] values, List<String> told, int run)
            throws Exception {
        Method same = Model.class.getDeclaredMethod(m.getName(), m.getParameterTypes());
        long got = ((Number) m.invoke(x, values)).longValue();
        long want = ((Number) same.invoke(model, values)).longValue();
        told.add(m.getName() + java.util.Arrays.toString(values));
        Due.is("run " + run + ", behind " + (got == want ? "" : told.toString()), got, want);
    }

    /** A tree that is well, most often; returns how many calls it took. */
    private static int plant(ChestnutSticks x, Model model, List<String> told) {
        x.wipe();
        model.wipe();
        int rows = 1 + RANDOM.nextInt(6);
        int width = 1 + RANDOM.nextInt(8);
        StringBuilder text = new StringBuilder();
        for (int r = 0; r < rows; r++) {
            text.append(r == 0 ? "" : ";");
            for (int c = 0; c < width; c++) text.append("..0123456789".charAt(RANDOM.nextInt(12)));
        }
        if (RANDOM.nextInt(8) == 0) text.setCharAt(RANDOM.nextInt(text.length()), ";x.9".charAt(RANDOM.nextInt(4)));
        for (int i = 0; i < text.length(); i++) {
            x.type(text.charAt(i));
            model.type(text.charAt(i));
        }
        told.add("the tree " + text);
        return 1 + text.length();
    }

    private static Object[] arguments(Method m) {
        Object[] values = new Object[m.getParameterCount()];
        for (int i = 0; i < values.length; i++) {
            values[i] = RANDOM.nextInt(40) == 0 ? EDGES[RANDOM.nextInt(EDGES.length)] : likely(m.getName(), i);
        }
        return values;
    }

    /** As a rule in the range, now and then one beside it. */
    private static int likely(String call, int i) {
        int[] most = switch (call) {
            case "type" -> new int[] {";.0123456789".charAt(RANDOM.nextInt(12))};
            case "stick" -> new int[] {4, 3, RANDOM.nextBoolean() ? 3 : 17};
            case "set" -> new int[] {6, RANDOM.nextBoolean() ? 9 : 30};
            case "seed" -> new int[] {Integer.MAX_VALUE};
            case "stands" -> new int[] {4, 8};
            case "toss" -> new int[] {3, 3, 47};
            case "state" -> new int[] {8, 5};
            case "hangs" -> new int[] {48};
            case "brings" -> new int[] {3, 47, 4};
            case "worth", "frees" -> new int[] {3, 47, 3};
            case "lie" -> new int[] {13, 2};
            case "ripe" -> new int[] {30};
            case "rests" -> new int[] {7};
            case "ends" -> new int[] {7, 2};
            case "thrower" -> new int[] {21, RANDOM.nextBoolean() ? 3 : 19};
            case "run" -> new int[] {RANDOM.nextBoolean() ? 30 : 10000, 21};
            case "hit" -> new int[] {21, 2};
            case "seen" -> new int[] {RANDOM.nextBoolean() ? 4 : 20, RANDOM.nextBoolean() ? 1 : 10};
            case "sheet" -> new int[] {3, 2, RANDOM.nextBoolean() ? 5 : 61};
            case "lay" -> new int[] {3, 2, 5, RANDOM.nextBoolean() ? 9 : Integer.MAX_VALUE};
            case "get" -> new int[] {3, 2, 5};
            case "copy" -> new int[] {3, 4, 3, 4, 4};
            case "count" -> new int[] {9};
            default -> new int[] {4};
        };
        if (call.equals("type")) return most[0];
        if (call.equals("seed") || most[i] == Integer.MAX_VALUE) return RANDOM.nextInt();
        return RANDOM.nextInt(most[i] + 1);
    }
}
