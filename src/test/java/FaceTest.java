import java.io.IOException;
import java.lang.reflect.Constructor;
import java.lang.reflect.Field;
import java.lang.reflect.Method;
import java.lang.reflect.Modifier;
import java.nio.file.Files;
import java.nio.file.Path;
import java.util.Arrays;
import java.util.Map;
import java.util.Set;
import java.util.TreeMap;
import java.util.TreeSet;
import java.util.regex.Matcher;
import java.util.regex.Pattern;

/** The face that the document tells, and what LANGUAGE.md rules out as far as a text shows it. */
public final class FaceTest {
    private static final String[] METHODS = {
        "int cellars(int)", "int cellar(int, int, int)", "int wall(int, boolean)", "int barrel(int, int, int, int, int)",
        "int drink(int)", "int set(int, int)", "int say(int)", "int wipe()", "int fault(int)", "int table()",
        "int level(int)", "int breath(int, int)", "int judge(int)", "int behind(int, int)", "int hands()",
        "int acid(int, int)", "int sours(int)", "int lost(int)", "int plan(int, int, int)", "int value(int, int)",
        "int opening(int, int)", "int banquet(int)", "int poured(int, int)", "long likely(int, int, int, int)",
        "long mean(int, int, int)", "int seen(int, int, int)", "int forget()", "int walls()", "int moons()",
        "int open(int)", "int shifts(int, int, int)", "int drought(int)", "int quiet(int)", "int period()",
        "int year(int, int, int, int)", "int image(int)", "int restore(int)", "int told(int)"};
    private static final String[] RULED_OUT = {"throw", "throws", "try", "catch", "synchronized", "assert", "import",
        "package", "->", "::", "protected", "Exact(", "hashCode", "toString", "System.out", "volatile", "native"};

    private static int wrong = 0;

    private static void due(boolean right, String what) {
        if (right) return;
        wrong++;
        System.out.println(what);
    }

    public static void main(String[] args) throws IOException {
        Class<?> face = CellarTides.class;
        due(Modifier.isPublic(face.getModifiers()) && Modifier.isFinal(face.getModifiers()), "public and final");
        due(face.getPackageName().isEmpty(), "without a package");
        methods(face);
        constants(face);
        Constructor<?>[] made = face.getDeclaredConstructors();
        due(made.length == 1 && Modifier.isPublic(made[0].getModifiers()) && made[0].getParameterCount() == 0, "one constructor");
        inside(face);
        source();
        System.out.println(wrong == 0 ? "the face is as told" : wrong + " faults of the face");
        if (wrong != 0) System.exit(1);
    }

    private static void methods(Class<?> face) {
        Set<String> found = new TreeSet<>();
        Set<String> names = new TreeSet<>();
        for (Method m : face.getDeclaredMethods()) {
            if (Modifier.isPrivate(m.getModifiers())) continue;
            due(Modifier.isPublic(m.getModifiers()) && !Modifier.isStatic(m.getModifiers()), "not public: " + m);
            String all = Arrays.toString(Arrays.stream(m.getParameterTypes()).map(Class::getName).toArray());
            found.add(m.getReturnType() + " " + m.getName() + "(" + all.substring(1, all.length() - 1) + ")");
            names.add(m.getName());
        }
        due(found.equals(new TreeSet<>(Arrays.asList(METHODS))), "methods: " + found);
        for (Method m : face.getDeclaredMethods())
            due(!Modifier.isPrivate(m.getModifiers()) || !names.contains(m.getName()), "private with a public name: " + m);
        for (Class<?> c : face.getDeclaredClasses())
            for (Method m : c.getDeclaredMethods()) due(!names.contains(m.getName()), "inside with a public name: " + m);
    }

    private static void constants(Class<?> face) {
        Map<String, Long> want = new TreeMap<>(Map.of("UNKNOWN", -1L, "OUTSIDE", -2L, "STATE", -3L, "FULL", -4L, "NO", -5L,
            "NONE", -6L, "GONE", -1000000000000000000L));
        Map<String, Long> found = new TreeMap<>();
        for (Field f : face.getDeclaredFields()) {
            due(!Modifier.isStatic(f.getModifiers()) || Modifier.isFinal(f.getModifiers()), "static, not final: " + f);
            if (Modifier.isPrivate(f.getModifiers())) continue;
            try {
                found.put(f.getName(), f.getLong(null));
                due(f.getType() == (f.getName().equals("GONE") ? long.class : int.class), "type: " + f);
            } catch (IllegalAccessException e) {
                due(false, "not to be read: " + f);
            }
        }
        due(found.equals(want), "constants: " + found);
    }

    private static void inside(Class<?> face) {
        due(face.getDeclaredClasses().length <= 12, "classes: " + face.getDeclaredClasses().length);
        for (Class<?> c : face.getDeclaredClasses()) {
            due(Modifier.isStatic(c.getModifiers()) && !Modifier.isPublic(c.getModifiers()), "not static: " + c);
            int own = 0;
            for (Field f : c.getDeclaredFields()) own += Modifier.isStatic(f.getModifiers()) ? 0 : 1;
            due(own <= 20, "fields of " + c + ": " + own);
        }
    }

    private static void source() throws IOException {
        String text = Files.readString(Path.of("src/main/java/CellarTides.java"));
        due(text.chars().allMatch(sign -> sign < 127), "signs above 126");
        String code = text.replaceAll("(?s)/\\*.*?\\*/", "").replaceAll("//[^\n]*", "");
        for (String word : RULED_OUT) {
            boolean isWord = Character.isLetter(word.charAt(0)) && Character.isLetter(word.charAt(word.length() - 1));
            Pattern p = Pattern.compile(isWord ? "\\b" + Pattern.quote(word) + "\\b" : Pattern.quote(word));
            due(!p.matcher(code).find(), "ruled out: " + word);
        }
        Matcher named = Pattern.compile("\\b(Integer|Long|Math|System|Arrays)\\.(\\w+)").matcher(code);
        Set<String> fine = Set.of("bitCount", "numberOfTrailingZeros", "max", "min", "abs", "arraycopy");
        while (named.find()) due(fine.contains(named.group(2)), "library: " + named.group());
    }
}
