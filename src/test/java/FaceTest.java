import java.lang.reflect.Constructor;
import java.lang.reflect.Field;
import java.lang.reflect.Method;
import java.lang.reflect.Modifier;
import java.nio.file.Files;
import java.nio.file.Path;
import java.util.Set;
import java.util.TreeSet;
import java.util.regex.Matcher;
import java.util.regex.Pattern;

/** The document's face, and those rules of LANGUAGE.md that can be seen from outside or by words. */
public final class FaceTest {
    private static final String FACE = """
            int type(int) int wipe() int undo() int fault() int stick(int,int,int) int set(int,int) int seed(int)
            int stands(int,int) int read(int) int toss(int,int,int) int back() int judged() int state(int,int)
            int hangs(int) int has(int) long brings(int,int,int) int worth(int,int) int where(int) int which()
            int frees(int,int,int) long lie(int,int) int ripe(int) int rests(int) int ends(int,int)
            int thrower(int,int) int gone() int run(int,int) int hit(int,int) int seen(int,int) int forget()
            int seeds() int sheet(int,int,int) int lose(int) int lay(int,int,int,int) int get(int,int,int)
            int copy(int,int,int,int,int) int write(int) int count(int) long digest()""";

    public static void main(String[] args) throws Exception {
        Due.is("NONE", ChestnutSticks.NONE, -1);
        Due.is("BAD", ChestnutSticks.BAD, -2);
        Due.is("NOT", ChestnutSticks.NOT, -3);
        Due.is("FULL", ChestnutSticks.FULL, -4);
        Set<String> face = methods();
        fieldsAndClasses();
        Path source = Path.of(args.length > 0 ? args[0] : "src/main/java/ChestnutSticks.java");
        words(Files.readString(source), face);
        Due.end("FaceTest");
    }

    private static Set<String> methods() {
        Set<String> want = new TreeSet<>();
        Matcher m = Pattern.compile("(int|long) \\w+\\([^)]*\\)").matcher(FACE);
        while (m.find()) want.add(m.group());
        Set<String> got = new TreeSet<>();
        Set<String> names = new TreeSet<>();
        for (Method one : ChestnutSticks.class.getDeclaredMethods()) {
            if (Modifier.isPrivate(one.getModifiers()) || one.isSynthetic()) continue;
            StringBuilder told = new StringBuilder(one.getReturnType() + " " + one.getName() + "(");
            for (Class<?> type : one.getParameterTypes()) {
                told.append(told.charAt(told.length() - 1) == '(' ? "" : ",").append(type);
            }
            got.add(told + ")");
            names.add(one.getName());
        }
        Due.that("the methods are " + want + ", not " + got, want.equals(got));
        for (Method one : ChestnutSticks.class.getDeclaredMethods()) {
            boolean hides = Modifier.isPrivate(one.getModifiers()) && names.contains(one.getName());
            Due.that("no private method is named " + one.getName(), !hides);
        }
        Constructor<?>[] made = ChestnutSticks.class.getDeclaredConstructors();
        Due.that("one public constructor", made.length == 1 && Modifier.isPublic(made[0].getModifiers()));
        return names;
    }

    private static void fieldsAndClasses() {
        Due.that("the class is final", Modifier.isFinal(ChestnutSticks.class.getModifiers()));
        Set<String> open = new TreeSet<>();
        for (Field one : ChestnutSticks.class.getDeclaredFields()) {
            boolean isStatic = Modifier.isStatic(one.getModifiers());
            Due.that(one.getName() + " is final, if static", !isStatic || Modifier.isFinal(one.getModifiers()));
            if (!Modifier.isPrivate(one.getModifiers())) open.add(one.getName());
        }
        Due.that("the open constants are those of the face", open.equals(Set.of("NONE", "BAD", "NOT", "FULL")));
        Class<?>[] inside = ChestnutSticks.class.getDeclaredClasses();
        Due.that("some twelve classes at most", inside.length <= 11);
        for (Class<?> one : inside) {
            Due.that(one.getName() + " is static", Modifier.isStatic(one.getModifiers()));
            Due.that(one.getName() + " has some twenty fields", one.getDeclaredFields().length <= 20);
        }
    }

    private static void words(String source, Set<String> face) {
        String bare = source.replaceAll("(?s)/\\*.*?\\*/", "").replaceAll("//[^\n]*", "");
        String[] forbidden = {"throw", "throws", "try", "catch", "finally", "synchronized", "assert", "import",
            "package", "System", "Object", "hashCode", "toString"};
        for (String word : forbidden) {
            Due.that("no " + word, !Pattern.compile("\\b" + word + "\\b").matcher(bare).find());
        }
        Due.that("no lambda, no arrow", !bare.contains("->"));
        Due.that("no method reference", !bare.contains("::"));
        int inside = bare.indexOf("private static final class");
        for (String name : face) {
            boolean again = Pattern.compile("\\b(int|long|boolean|void) " + name + "\\(").matcher(bare.substring(inside)).find();
            Due.that("no inner method is named " + name, !again);
        }
    }
}
