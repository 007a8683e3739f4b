import java.lang.reflect.InvocationTargetException;
import java.lang.reflect.Method;
import java.util.ArrayList;
import java.util.HashMap;
import java.util.List;
import java.util.Map;

/**
 * Runs of calls written as texts, each on a new object: "cellars 2 = 3; acid 0 2 = UNKNOWN".
 *
 * A call without an answer must only be taken, not refused. "text 0b." wipes the pad and says these
 * signs, "tide 05" makes them the table too; "60* say 46" makes a call so many times.
 */
final class Script {
    /** So many calls the document promises of an object. */
    static final int MOST_CALLS = 512;

    private static final Map<String, Method> CALLS = new HashMap<>();
    private static final Map<String, Long> NAMES = Map.of("UNKNOWN", -1L, "OUTSIDE", -2L, "STATE", -3L, "FULL", -4L, "NO", -5L,
        "NONE", -6L, "GONE", -1000000000000000000L);

    static {
        for (Method method : CellarTides.class.getDeclaredMethods()) CALLS.put(method.getName(), method);
    }

    private final String name;
    private String title = "";
    private CellarTides x;
    private int calls;
    private int right = 0, wrong = 0;

    Script(String name) { this.name = name; }

    /** A run on a new object; behind it calls() tells how long it was. */
    void run(String what, String steps) {
        title = what;
        x = new CellarTides();
        calls = 0;
        for (String step : steps.split("[;\n]")) if (!step.isBlank()) step(step.trim());
        if (calls > MOST_CALLS) fault("a run of " + calls + " calls");
    }

    int calls() { return calls; }

    /** The object of the last run, as that left it. */
    CellarTides town() { return x; }

    private void step(String step) {
        if (step.matches("\\d+\\* .*")) {
            int times = Integer.parseInt(step.substring(0, step.indexOf('*')));
            for (int i = 0; i < times; i++) step(step.substring(step.indexOf('*') + 1).trim());
            return;
        }
        if (step.startsWith("text ") || step.startsWith("tide ")) {
            String signs = step.substring(5).trim();
            call("wipe", List.of(), null, step);
            for (int i = 0; i < signs.length(); i++) call("say", List.of((int) signs.charAt(i)), (long) i + 1, step);
            if (step.startsWith("tide ")) call("table", List.of(), (long) signs.length(), step);
            return;
        }
        String[] sides = step.split("=");
        String[] words = sides[0].trim().split(" +");
        List<Object> numbers = new ArrayList<>();
        for (int i = 1; i < words.length; i++) numbers.add(argument(words[i]));
        call(words[0], numbers, sides.length > 1 ? answer(sides[1]) : null, step);
    }

    private void call(String called, List<Object> numbers, Long want, String step) {
        calls++;
        long got = ask(x, called, numbers);
        if (want == null ? got >= 0 : got == want) { right++; return; }
        fault("[" + step + "] answered " + got + ", due is " + (want == null ? "that it is taken" : want));
    }

    void fault(String what) {
        wrong++;
        System.out.println(name + ": " + title + ": " + what);
    }

    void due(String what, boolean holds) {
        if (holds) right++;
        else fault(what);
    }

    /** A call by its name. */
    static long ask(CellarTides x, String called, List<Object> numbers) {
        Method method = CALLS.get(called);
        if (method == null) throw new IllegalArgumentException("no call " + called);
        try {
            return ((Number) method.invoke(x, numbers.toArray())).longValue();
        } catch (IllegalAccessException e) {
            throw new IllegalStateException(called + " is not public", e);
        } catch (InvocationTargetException e) {
            throw new IllegalStateException(called + numbers + " threw", e.getCause());
        }
    }

    private static Object argument(String word) {
        if (word.equals("true") || word.equals("false")) return Boolean.valueOf(word);
        return switch (word) {
            case "LEAST" -> Integer.MIN_VALUE;
            case "MOST" -> Integer.MAX_VALUE;
            default -> Integer.valueOf(word);
        };
    }

    /** A number, a name, or names and numbers added: GONE+UNKNOWN. */
    static long answer(String text) {
        long sum = 0;
        for (String part : text.split("\\+")) {
            String word = part.trim();
            sum += NAMES.containsKey(word) ? NAMES.get(word) : Long.parseLong(word);
        }
        return sum;
    }

    void end() {
        System.out.println(name + ": " + right + " answers right, " + wrong + " wrong");
        if (wrong != 0) System.exit(1);
    }
}
