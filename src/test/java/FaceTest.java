import java.io.IOException;
import java.lang.reflect.Constructor;
import java.lang.reflect.Field;
import java.lang.reflect.Method;
import java.lang.reflect.Modifier;
import java.nio.file.Files;
import java.nio.file.Path;
import java.util.Arrays;
import java.util.Set;
import java.util.TreeSet;
import java.util.regex.Matcher;
import java.util.regex.Pattern;

/** The face is the one of the document's code block, and no other; and what LANGUAGE.md rules out, as far as a text shows it. */
public final class FaceTest {
    private static final String[] RULED_OUT = {"throw", "throws", "try", "catch", "synchronized", "assert", "import",
        "package", "->", "::", "protected", "Exact(", "hashCode", "toString", "System.out", "volatile", "native"};

    private static final int MOST_PARAMETERS = 7, MOST_LINES = 60, MOST_CLASSES = 12, MOST_FIELDS = 20;

    /** As the document has them: a method's answer, name and types; a constant's type, name and value. */
    private static final Set<String> methodsTold = new TreeSet<>(), constantsTold = new TreeSet<>();
    private static int wrong = 0;

    private static void due(boolean right, String what) {
        if (right) return;
        wrong++;
        System.out.println(what);
    }

    public static void main(String[] args) throws IOException {
        Class<?> face = CellarTides.class;
        readDocument();
        due(Modifier.isPublic(face.getModifiers()) && Modifier.isFinal(face.getModifiers()), "public and final");
        due(face.getPackageName().isEmpty(), "without a package");
        methods(face);
        constants(face);
        Constructor<?>[] made = face.getDeclaredConstructors();
        due(made.length == 1 && Modifier.isPublic(made[0].getModifiers()) && made[0].getParameterCount() == 0, "one constructor");
        inside(face);
        source();
        System.out.println(wrong == 0 ? "the face is as told" : wrong + " faults of the face");
        if (wrong != 0) System.exit(1);
    }

    private static void readDocument() throws IOException {
        String text = Files.readString(Path.of("../shared/DOC.md"));
        Matcher block = Pattern.compile("(?s)```java\n(.*?)```").matcher(text);
        if (!block.find()) throw new IllegalStateException("the document has no code block");
        for (String line : block.group(1).split("\n")) {
            Matcher method = Pattern.compile("    public (int|long) (\\w+)\\((.*)\\);").matcher(line);
            Matcher constant = Pattern.compile("    public static final (int|long) (.*);").matcher(line);
            if (method.matches()) {
                String types = method.group(3).replaceAll(" \\w+(?=,|$)", "");
                methodsTold.add(method.group(1) + " " + method.group(2) + "(" + types + ")");
            }
            if (constant.matches())
                for (String one : constant.group(2).split(", ")) constantsTold.add(constant.group(1) + " " + one.replaceAll("(\\d)L$", "$1"));
        }
        due(methodsTold.size() == 38, "methods of the document: " + methodsTold.size());
        due(constantsTold.size() == 7, "constants of the document: " + constantsTold);
    }

    private static void methods(Class<?> face) {
        Set<String> found = new TreeSet<>();
        Set<String> names = new TreeSet<>();
        for (Method m : face.getDeclaredMethods()) {
            if (Modifier.isPrivate(m.getModifiers())) continue;
            due(Modifier.isPublic(m.getModifiers()) && !Modifier.isStatic(m.getModifiers()), "not public: " + m);
            String all = Arrays.toString(Arrays.stream(m.getParameterTypes()).map(Class::getName).toArray());
            found.add(m.getReturnType() + " " + m.getName() + "(" + all.substring(1, all.length() - 1) + ")");
            names.add(m.getName());
        }
        due(found.equals(methodsTold), "methods: " + found + ", due are " + methodsTold);
        for (Method m : face.getDeclaredMethods())
            due(!Modifier.isPrivate(m.getModifiers()) || !names.contains(m.getName()), "private with a public name: " + m);
        for (Class<?> c : face.getDeclaredClasses())
            for (Method m : c.getDeclaredMethods()) due(!names.contains(m.getName()), "inside with a public name: " + m);
    }

    private static void constants(Class<?> face) {
        Set<String> found = new TreeSet<>();
        for (Field f : face.getDeclaredFields()) {
            due(!Modifier.isStatic(f.getModifiers()) || Modifier.isFinal(f.getModifiers()), "static, not final: " + f);
            if (Modifier.isPrivate(f.getModifiers())) continue;
            try {
                found.add(f.getType() + " " + f.getName() + " = " + f.getLong(null));
                due(Modifier.isPublic(f.getModifiers()) && Modifier.isStatic(f.getModifiers()), "not a public constant: " + f);
            } catch (IllegalAccessException e) {
                due(false, "not to be read: " + f);
            }
        }
        due(found.equals(constantsTold), "constants: " + found + ", due are " + constantsTold);
    }

    private static void inside(Class<?> face) {
        due(face.getDeclaredClasses().length < MOST_CLASSES, "classes: " + face.getDeclaredClasses().length);
        for (Class<?> c : face.getDeclaredClasses()) {
            due(Modifier.isStatic(c.getModifiers()), "not static: " + c);
            due(!Modifier.isPublic(c.getModifiers()) && !Modifier.isProtected(c.getModifiers()), "not private or package-visible: " + c);
            for (Method m : c.getDeclaredMethods()) due(m.getParameterCount() <= MOST_PARAMETERS, "parameters: " + m);
            int own = 0;
            for (Field f : c.getDeclaredFields()) own += Modifier.isStatic(f.getModifiers()) ? 0 : 1;
            due(own <= MOST_FIELDS, "fields of " + c + ": " + own);
        }
    }

    /** Methods begin with a head that ends in "{" and end with a "}" as far in. */
    private static void lengths(String[] lines) {
        for (int i = 0; i < lines.length; i++) {
            Matcher head = Pattern.compile("( {4}| {8})(?! )[\\w<>\\[\\] ]+\\([^;]*\\) \\{").matcher(lines[i]);
            if (!head.matches()) continue;
            int end = i;
            while (end < lines.length && !lines[end].equals(head.group(1) + "}")) end++;
            due(end - i < MOST_LINES, "lines of " + lines[i].trim() + ": " + (end - i + 1));
        }
    }

    private static void source() throws IOException {
        String text = Files.readString(Path.of("src/main/java/CellarTides.java"));
        due(text.chars().allMatch(sign -> sign < 127), "signs above 126");
        lengths(text.split("\n"));
        String code = text.replaceAll("(?s)/\\*.*?\\*/", "").replaceAll("//[^\n]*", "");
        for (String word : RULED_OUT) {
            boolean isWord = Character.isLetter(word.charAt(0)) && Character.isLetter(word.charAt(word.length() - 1));
            Pattern p = Pattern.compile(isWord ? "\\b" + Pattern.quote(word) + "\\b" : Pattern.quote(word));
            due(!p.matcher(code).find(), "ruled out: " + word);
        }
        Matcher named = Pattern.compile("\\b(Integer|Long|Math|System|Arrays)\\.(\\w+)").matcher(code);
        Set<String> fine = Set.of("bitCount", "numberOfTrailingZeros", "max", "min", "abs", "arraycopy");
        while (named.find()) due(fine.contains(named.group(2)), "library: " + named.group());
    }
}
