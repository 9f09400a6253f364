/** Counts and prints the calls whose answer is not the one that is due. */
final class Due {
    private static int wrong = 0;

    private Due() {
    }

    static void is(String call, long got, long want) {
        if (got != want) {
            wrong++;
            System.out.println(call + " answered " + got + ", due is " + want);
        }
    }

    static void that(String what, boolean holds) {
        if (!holds) {
            wrong++;
            System.out.println("does not hold: " + what);
        }
    }

    static int wrongSoFar() {
        return wrong;
    }

    static void end(String test) {
        System.out.println(test + (wrong == 0 ? ": all as due" : ": " + wrong + " not as due"));
        if (wrong != 0) {
            System.exit(1);
        }
    }

    static ChestnutSticks tree(String text) {
        ChestnutSticks x = new ChestnutSticks();
        write(x, text);
        return x;
    }

    static void write(ChestnutSticks x, String text) {
        x.wipe();
        for (int i = 0; i < text.length(); i++) {
            is("type of " + text + " at " + i, x.type(text.charAt(i)), i + 1);
        }
    }

    static void types(ChestnutSticks x, int b, int times) {
        for (int i = 0; i < times; i++) {
            x.type(b);
        }
    }
}
