import java.util.ArrayList;
import java.util.List;
import java.util.Set;
import java.util.TreeSet;

/** Counts and prints the calls whose answer is not the one that is due. */
final class Due {
    private static int wrong = 0;
    private static String sentence = "";
    private static final List<String> QUOTED = new ArrayList<>();
    private static final Set<Integer> PROMISES = new TreeSet<>();

    private Due() {
    }

    /** The words of the document that the checks from here on are for, and the promises that rest on them. */
    static void sentence(String words, int... promises) {
        StringBuilder numbers = new StringBuilder();
        for (int promise : promises) {
            PROMISES.add(promise);
            numbers.append(numbers.length() == 0 ? "" : ", ").append(promise);
        }
        QUOTED.add(words);
        sentence = numbers + " '" + words + "': ";
    }

    static List<String> quoted() {
        return QUOTED;
    }

    static Set<Integer> promises() {
        return PROMISES;
    }

    static void noSentence() {
        sentence = "";
    }

    static void is(String call, long got, long want) {
        if (got != want) {
            wrong++;
            System.out.println(sentence + call + " answered " + got + ", due is " + want);
        }
    }

    static void that(String what, boolean holds) {
        if (!holds) {
            wrong++;
            System.out.println(sentence + "does not hold: " + what);
        }
    }

    static int wrongSoFar() {
        return wrong;
    }

    static void end(String test) {
        System.out.println(test + (wrong == 0 ? ": all as due" : ": " + wrong + " not as due"));
        if (wrong != 0) {
            System.exit(1);
        }
    }

    static ChestnutSticks tree(String text) {
        ChestnutSticks x = new ChestnutSticks();
        write(x, text);
        return x;
    }

    static void write(ChestnutSticks x, String text) {
        x.wipe();
        for (int i = 0; i < text.length(); i++) {
            is("type of " + text + " at " + i, x.type(text.charAt(i)), i + 1);
        }
    }

    static void types(ChestnutSticks x, int b, int times) {
        for (int i = 0; i < times; i++) {
            x.type(b);
        }
    }
}
