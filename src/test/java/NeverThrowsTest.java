import java.lang.reflect.InvocationTargetException;
import java.lang.reflect.Method;
import java.util.ArrayList;
import java.util.Arrays;
import java.util.HashMap;
import java.util.List;
import java.util.Map;
import java.util.Random;
import java.util.Set;
import java.util.TreeSet;
import java.util.concurrent.TimeUnit;

/**
 * No call throws or fails to end, whatever its arguments and whatever came before it, also far behind
 * the last call that the document promises; and each answer is one that its call can give at all: a
 * refusal that its promise names, NONE where it is named, or a number up to the most there can be.
 */
public final class NeverThrowsTest {
    /** The name, what else than a number it may answer, the most it may answer. */
    private static final String[] ANSWERS = {
        "cellars OUTSIDE 6", "cellar UNKNOWN,OUTSIDE,STATE 8", "wall UNKNOWN 1", "barrel UNKNOWN,OUTSIDE,FULL 8", "drink UNKNOWN 7",
        "set OUTSIDE 99", "say OUTSIDE,FULL 60", "wipe - 60", "fault OUTSIDE,NONE 60", "table NO 30", "level OUTSIDE 9",
        "breath UNKNOWN,OUTSIDE 9", "judge OUTSIDE,NO,STATE,NONE 2430", "behind UNKNOWN,OUTSIDE,NO,STATE 99", "hands NO,NONE 2430",
        "acid UNKNOWN,OUTSIDE 99", "sours UNKNOWN,NONE 999", "lost OUTSIDE 72", "plan OUTSIDE,UNKNOWN,FULL,NONE 324",
        "value UNKNOWN,OUTSIDE 450", "opening UNKNOWN,OUTSIDE 450", "banquet OUTSIDE 3600", "poured UNKNOWN,OUTSIDE 72",
        "likely GONE+UNKNOWN,GONE+OUTSIDE 10000000000", "mean GONE+OUTSIDE 720000000000", "seen UNKNOWN,OUTSIDE,FULL 6", "forget - 6",
        "walls - 127", "moons - 1073741823", "open OUTSIDE,NONE 30", "shifts OUTSIDE,FULL 4095", "drought OUTSIDE 9", "quiet UNKNOWN,NONE 29",
        "period - 30", "year OUTSIDE 999", "image OUTSIDE 1", "restore OUTSIDE,STATE 1", "told OUTSIDE 255"};
    private static final int[] FAR = {Integer.MIN_VALUE, Integer.MIN_VALUE + 1, Integer.MIN_VALUE / 2, -1000000007, -65537, -1000, -100, -33, -32, -31,
        -8, -7, -6, -5, -4, -3, -2, -1, 10, 11, 12, 13, 29, 30, 31, 32, 33, 46, 48, 55, 56, 57, 58, 63, 64, 97, 102, 103, 126, 127, 128, 255,
        256, 257, 999, 1000, 9999, 10000, 65535, 65536, 65537, 1 << 24, 1 << 30, Integer.MAX_VALUE / 2, Integer.MAX_VALUE - 1, Integer.MAX_VALUE};
    private static final int RUNS = 300, CALLS = 4000;
    /** Far more than it takes: the whole test ends within seconds. */
    private static final long SECONDS = 300;

    private static final Map<String, Method> calls = new HashMap<>();
    private static final Map<String, Set<Long>> others = new HashMap<>();
    private static final Map<String, Long> most = new HashMap<>();
    private static final Set<String> given = new TreeSet<>();
    private static volatile String now = "";
    private static long right = 0, wrong = 0;

    public static void main(String[] args) throws InterruptedException {
        for (Method method : CellarTides.class.getDeclaredMethods()) calls.put(method.getName(), method);
        for (String row : ANSWERS) readAnswers(row.split(" "));
        Thread all = new Thread(NeverThrowsTest::runAll);
        all.setDaemon(true);
        all.start();
        all.join(TimeUnit.SECONDS.toMillis(SECONDS));
        if (all.isAlive()) {
            wrong++;
            System.out.println("never throws: no end of " + now);
        }
        System.out.println("never throws: " + right + " answers right, " + wrong + " wrong");
        if (wrong != 0) System.exit(1);
    }

    private static void readAnswers(String[] row) {
        Set<Long> may = new TreeSet<>();
        if (!row[1].equals("-")) for (String other : row[1].split(",")) may.add(Script.answer(other));
        others.put(row[0], may);
        most.put(row[0], Long.valueOf(row[2]));
    }

    private static void runAll() {
        for (int run = 0; run < RUNS; run++) runOne(new Random(run), run % 3, run % 2 == 0);
        // each answer that a call may give besides numbers was given: so the runs reach all of them
        others.forEach((name, may) -> { for (long other : may) due(name + " never answered " + other, given.contains(name + other)); });
    }

    /** Some runs use mostly numbers as told, some mostly others; cellars, which empties all, comes seldom. */
    private static void runOne(Random draw, int manner, boolean full) {
        CellarTides x = new CellarTides();
        if (full) fill(x);
        String[] names = most.keySet().toArray(new String[0]);
        Arrays.sort(names);
        for (int i = 0; i < CALLS; i++) {
            String name = names[draw.nextInt(names.length)];
            boolean seldom = name.equals("cellars") || name.equals("wipe") || name.equals("forget") || name.equals("drink");
            if (seldom && draw.nextInt(20) != 0) continue;
            call(x, name, arguments(draw, name, manner));
        }
    }

    /** More digits than shifts takes, more barrels than plan takes. */
    private static void fill(CellarTides x) {
        x.cellars(6);
        for (int i = 0; i < 30; i++) x.say('0' + i % 7);
        x.table();
        for (int b = 0; b < 8; b++) x.barrel(b, b % 6, b + 1, b % 3, b % 4);
    }

    private static Object[] arguments(Random draw, String name, int manner) {
        List<Object> all = new ArrayList<>();
        for (Class<?> type : calls.get(name).getParameterTypes()) {
            if (type == boolean.class) all.add(draw.nextBoolean());
            else all.add(number(draw, name, manner));
        }
        return all.toArray();
    }

    private static int number(Random draw, String name, int manner) {
        int luck = draw.nextInt(30);
        if (luck < manner * 10) return FAR[draw.nextInt(FAR.length)];
        if (luck == 29) return draw.nextInt();
        if (name.equals("say")) return ".01234567abcdef89".charAt(draw.nextInt(17));
        if (name.equals("plan") && luck > 20) return draw.nextInt(256);
        return draw.nextInt(luck < 26 ? 3 : 10);
    }

    private static void call(CellarTides x, String name, Object[] numbers) {
        now = name + List.of(numbers);
        long got;
        try {
            got = ((Number) calls.get(name).invoke(x, numbers)).longValue();
        } catch (InvocationTargetException e) {
            due(now + " threw " + e.getCause(), false);
            return;
        } catch (IllegalAccessException e) {
            due(now + " is not public", false);
            return;
        }
        boolean other = others.get(name).contains(got);
        if (other) given.add(name + got);
        due(now + " answered " + got, other || got >= 0 && got <= most.get(name));
    }

    private static void due(String what, boolean holds) {
        if (holds) { right++; return; }
        wrong++;
        if (wrong <= 20) System.out.println("never throws: " + what);
    }
}
