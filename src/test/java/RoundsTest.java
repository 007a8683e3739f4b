import java.lang.reflect.Method;
import java.util.ArrayList;
import java.util.Collections;
import java.util.HashMap;
import java.util.List;
import java.util.Map;
import java.util.Random;
import java.util.Set;
import java.util.TreeSet;

/**
 * Runs of just as many calls as the document promises of an object, in rounds: a change, taken or
 * refused, then every question, on the class and on the model. It fails, too, if some change was never
 * followed by some question, or some call was never the last of a run.
 */
public final class RoundsTest {
    /** Each number's least and most; ? is true or false. */
    private static final String[] CHANGES = {"cellars 1:6", "cellar 0:5 0:1 0:8", "wall 0:5 ?", "barrel 0:7 0:5 1:9 0:4 0:3", "drink 0:7",
        "set 0:6 1:29", "say 33:126", "wipe", "table", "seen 0:7 0:12 0:40", "forget", "image 0:1", "restore 0:1"};
    private static final String[] QUESTIONS = {"fault 0:1", "level 0:999", "breath 0:5 0:99", "judge 0:3", "behind 0:7 0:1", "hands", "acid 0:7 0:40",
        "sours 0:7", "lost 0:40", "plan 0:255 0:30 -1:7", "value 0:7 0:99", "opening 0:7 0:1", "banquet 0:1", "poured 0:40 -1:7",
        "likely 0:7 0:10 0:10 0:1", "mean 0:10 0:10 0:1", "walls", "moons", "open 0:1", "shifts 0:9 1:30 0:1", "drought 0:60", "quiet 0:5",
        "period", "year 0:9999 1:999 1:99 0:1", "told 0:44"};
    /** These can not be refused; a wall, a table or a drink can, by what is there. */
    private static final Set<String> NEVER_REFUSED = Set.of("wipe", "forget");
    private static final int RUNS = 900;

    private static final List<String> all = new ArrayList<>();
    private static final Map<String, Method> ofClass = new HashMap<>(), ofModel = new HashMap<>();
    private static final Set<String> followed = new TreeSet<>(), last = new TreeSet<>();
    private static long right = 0, wrong = 0;

    private final Random draw;
    private final int run;
    private final CellarTides x = new CellarTides();
    private final Model m = new Model();
    private int calls = 0;

    private RoundsTest(int run) {
        this.run = run;
        draw = new Random(run);
    }

    public static void main(String[] args) throws ReflectiveOperationException {
        for (Method method : CellarTides.class.getDeclaredMethods()) ofClass.put(method.getName(), method);
        all.addAll(List.of(CHANGES));
        all.addAll(List.of(QUESTIONS));
        for (String call : all) {
            String name = name(call);
            ofModel.put(name, Model.class.getDeclaredMethod(name, ofClass.get(name).getParameterTypes()));
        }
        for (int run = 0; run < RUNS; run++) new RoundsTest(run).go();
        for (String call : all) due(name(call) + " was never the last of a run", last.contains(name(call)));
        for (String change : CHANGES) for (String question : QUESTIONS) followUps(name(change), name(question));
        System.out.println("rounds: " + right + " answers right, " + wrong + " wrong");
        if (wrong != 0) System.exit(1);
    }

    private static void followUps(String change, String question) {
        due(question + " was never asked behind " + change, followed.contains(change + " taken " + question));
        if (!NEVER_REFUSED.contains(change))
            due(question + " was never asked behind a refused " + change, followed.contains(change + " refused " + question));
    }

    private static void due(String what, boolean holds) {
        if (holds) { right++; return; }
        wrong++;
        System.out.println("rounds: " + what);
    }

    private static String name(String call) { return call.split(" ")[0]; }

    /** Each run has another call as its last. */
    private void go() throws ReflectiveOperationException {
        if (run % 3 != 0) town();
        for (int round = run; calls < Script.MOST_CALLS - 1; round++) {
            String change = CHANGES[round % CHANGES.length];
            prepare(name(change));
            String behind = name(change) + (ask(change) < 0 ? " refused " : " taken ");
            List<String> questions = new ArrayList<>(List.of(QUESTIONS));
            Collections.shuffle(questions, draw);
            for (String question : questions) {
                if (calls >= Script.MOST_CALLS - 1) break;
                ask(question);
                followed.add(behind + name(question));
            }
        }
        ask(all.get(run % all.size()));
    }

    private void town() throws ReflectiveOperationException {
        same("cellars", 2 + draw.nextInt(5));
        int barrels = 2 + draw.nextInt(7);
        for (int b = 0; b < barrels; b++) ask("barrel 0:7 0:5 1:9 0:2 0:3");
    }

    /** Signs for what reads the pad: now and then digits or moves, else whatever was said. */
    private void prepare(String change) throws ReflectiveOperationException {
        if (calls + 30 > Script.MOST_CALLS) return;
        boolean digits = change.equals("table") && draw.nextInt(3) != 0;
        boolean moves = change.equals("wall") || change.equals("drink") || change.equals("restore");
        if (!digits && !moves) return;
        same("wipe");
        int count = 1 + draw.nextInt(8);
        for (int i = 0; i < count; i++) {
            if (digits) { same("say", 48 + draw.nextInt(10)); continue; }
            if (draw.nextInt(3) == 0) { same("say", 46); continue; }
            same("say", 48 + draw.nextInt(8));
            same("say", 97 + draw.nextInt(m.w.n));
        }
    }

    private long ask(String call) throws ReflectiveOperationException {
        String[] words = call.split(" ");
        List<Object> numbers = new ArrayList<>();
        for (int i = 1; i < words.length; i++) numbers.add(words[i].equals("?") ? (Object) draw.nextBoolean() : (Object) drawn(words[i]));
        if (words[0].equals("seen") && draw.nextBoolean()) makeTrue(numbers);
        if (words[0].equals("say") && draw.nextInt(3) != 0) numbers.set(0, 46 + draw.nextInt(12));
        if (words[0].equals("plan") && draw.nextInt(4) != 0) numbers.set(0, (int) numbers.get(0) & m.told(2) & draw.nextInt(256));
        return same(words[0], numbers.toArray());
    }

    /** Mostly within, now and then one beyond an end. */
    private int drawn(String range) {
        String[] ends = range.split(":");
        int least = Integer.parseInt(ends[0]), most = Integer.parseInt(ends[1]);
        if (draw.nextInt(25) == 0) return draw.nextBoolean() ? least - 1 : most + 1;
        return least + draw.nextInt(most - least + 1);
    }

    private void makeTrue(List<Object> sight) {
        int barrel = (int) sight.get(0), d = (int) sight.get(1);
        if (m.there(barrel) && d >= 0) sight.set(2, m.acidOf(barrel, d));
    }

    private long same(String name, Object... numbers) throws ReflectiveOperationException {
        if (calls >= Script.MOST_CALLS) return 0;
        calls++;
        long got = ((Number) ofClass.get(name).invoke(x, numbers)).longValue();
        long want = ((Number) ofModel.get(name).invoke(m, numbers)).longValue();
        if (calls == Script.MOST_CALLS) last.add(name);
        if (got == want) { right++; return got; }
        wrong++;
        if (wrong <= 20) System.out.println("rounds: run " + run + ", call " + calls + ": " + name + List.of(numbers) + " answered " + got + ", due is " + want);
        return got;
    }
}
