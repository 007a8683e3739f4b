import java.lang.reflect.Method;
import java.util.ArrayList;
import java.util.HashMap;
import java.util.List;
import java.util.Map;

/**
 * Every call with every choice of numbers from a few (inside, at the edges, far outside), in a few
 * towns, on the class and on the model: so each two, three or more refusals that fit one call are
 * put to it together, and no choice of numbers makes the machine throw.
 */
public final class GridTest {
    private static final int LEAST = Integer.MIN_VALUE, MOST = Integer.MAX_VALUE;
    private static final int[] ONE = {LEAST, LEAST + 1, -1000, -7, -2, -1, 0, 1, 2, 3, 4, 5, 6, 7, 8, 9, 10, 11, 20, 29, 30, 31, 32, 33,
        43, 44, 64, 99, 100, 103, 104, 126, 127, 255, 256, 800, 803, 804, 903, 999, 1000, 9999, 10000, 65536, MOST - 1, MOST};
    private static final int[] TWO = {LEAST, -2, -1, 0, 1, 2, 3, 5, 6, 7, 8, 9, 10, 11, 29, 30, 31, 32, 99, 100, 255, 256, 999, 1000, MOST};
    private static final int[] THREE = {LEAST, -2, -1, 0, 1, 3, 7, 8, 10, 15, 30, 31, 99, 100, 255, 999, 1000, MOST};
    private static final int[] FOUR = {LEAST, -1, 0, 1, 3, 10, 11, 99, 999, 10000, MOST};
    private static final int[] FIVE = {LEAST, -1, 0, 1, 4, 8, 10, MOST};
    private static final int[][] BY_COUNT = {{}, ONE, TWO, THREE, FOUR, FIVE};

    private static final String[] CHANGES = {"cellars 1", "cellar 3", "wall 1", "barrel 5", "drink 1", "set 2", "say 1", "wipe 0",
        "table 0", "seen 3", "forget 0", "image 1", "restore 1"};
    private static final String[] QUESTIONS = {"fault 1", "level 1", "breath 2", "judge 1", "behind 2", "hands 0", "acid 2", "sours 1",
        "lost 1", "plan 3", "value 2", "opening 2", "banquet 1", "poured 2", "likely 4", "mean 3", "walls 0", "moons 0", "open 1",
        "shifts 3", "drought 1", "quiet 1", "period 0", "year 4", "told 1"};

    private static final String FIRST = "";
    /** Cellar a is full, 0 to 4 are there, the pad is full of a fault, the sights are full, one image is kept. */
    private static final String FULL = "cellars 4;say 51;say 49;say 52;table;barrel 0 0 2 0 0;barrel 1 0 3 1 1;cellar 0 1 2;barrel 2 1 4 0 2;"
        + "barrel 3 3 9 0 3;barrel 4 2 1 2 0;wall 2 true;set 0 9;set 2 28;seen 0 3 8;seen 1 1 2;seen 2 30 60;seen 3 2 1;seen 0 0 0;"
        + "seen 0 5 14;image 1;say 48;say 99;" + "say 46;".repeat(57) + "say 51";
    /** Thirteen digits, moves that can not be, all eight barrels, both images, no hands. */
    private static final String STUCK = "cellars 6;" + "say 50;say 55;say 49;".repeat(4) + "say 56;table;barrel 0 0 1 0 0;barrel 1 1 2 1 1;"
        + "barrel 2 2 3 2 2;barrel 3 3 4 0 3;barrel 4 4 5 1 0;barrel 5 5 6 2 1;barrel 6 0 7 0 2;barrel 7 1 8 1 3;wall 5 true;set 1 0;"
        + "image 0;set 0 40;image 1;set 3 0;set 4 99;seen 7 2 8;say 46;say 48;say 98";
    private static final String[] SCENES = {FIRST, FULL, STUCK};

    private static final Map<String, Method> ofClass = new HashMap<>(), ofModel = new HashMap<>();
    private static long right = 0, wrong = 0;

    private CellarTides x;
    private Model m;
    private int calls;

    public static void main(String[] args) throws ReflectiveOperationException {
        for (Method method : CellarTides.class.getMethods()) ofClass.put(method.getName(), method);
        for (String call : QUESTIONS) find(call);
        for (String call : CHANGES) find(call);
        for (String scene : SCENES) {
            GridTest grid = new GridTest();
            grid.build(scene);
            grid.isAsSaid(scene);
            for (String call : QUESTIONS) grid.ask(scene, call, false);
            for (String call : CHANGES) grid.ask(scene, call, true);
        }
        System.out.println("grid: " + right + " answers right, " + wrong + " wrong");
        if (wrong != 0) System.exit(1);
    }

    /** What the comments say of the towns. */
    private void isAsSaid(String scene) {
        if (scene.equals(FULL)) {
            due("signs", x.told(0), 60);
            due("fault", x.fault(1), 60);
            due("sights", x.told(7), 6);
            due("cellar a", x.barrel(5, 0, 1, 0, 0), CellarTides.FULL);
            due("one image", x.restore(0), CellarTides.STATE);
        }
        if (scene.equals(STUCK)) {
            due("digits", x.told(6), 13);
            due("why", x.judge(1), 4);
            due("barrels", x.told(2), 255);
        }
    }

    private static void due(String what, long got, long want) {
        if (got == want) { right++; return; }
        wrong++;
        System.out.println("grid: " + what + " answered " + got + ", due is " + want);
    }

    private static void find(String call) throws ReflectiveOperationException {
        String name = call.split(" ")[0];
        ofModel.put(name, Model.class.getDeclaredMethod(name, ofClass.get(name).getParameterTypes()));
    }

    private void build(String scene) throws ReflectiveOperationException {
        x = new CellarTides();
        m = new Model();
        calls = 0;
        if (scene.isEmpty()) return;
        for (String call : scene.split(";")) {
            String[] words = call.split(" ");
            List<Object> numbers = new ArrayList<>();
            for (int i = 1; i < words.length; i++) numbers.add(words[i].equals("true") ? (Object) true : (Object) Integer.valueOf(words[i]));
            same(scene, words[0], numbers.toArray());
        }
    }

    /** A question changes nothing, so one town does for many; a change needs a new one each time. */
    private void ask(String scene, String call, boolean changes) throws ReflectiveOperationException {
        String name = call.split(" ")[0];
        int count = call.charAt(call.length() - 1) - '0';
        int[] values = BY_COUNT[count];
        long ways = 1;
        for (int i = 0; i < count; i++) ways *= values.length;
        for (long way = 0; way < ways; way++) {
            if (changes || calls > 480) build(scene);
            Object[] numbers = numbers(name, count, values, way);
            same(scene, name, numbers);
            if (changes) for (int i = 0; i < 8; i++) same(scene, "told", new Object[] {i});
        }
        build(scene);
    }

    private static Object[] numbers(String name, int count, int[] values, long way) {
        List<Object> all = new ArrayList<>();
        long left = way;
        for (int i = 0; i < count; i++) {
            all.add(values[(int) (left % values.length)]);
            left /= values.length;
        }
        if (name.equals("wall")) all.add(way % 2 == 0);
        return all.toArray();
    }

    private void same(String scene, String name, Object[] numbers) throws ReflectiveOperationException {
        calls++;
        long got = ((Number) ofClass.get(name).invoke(x, numbers)).longValue();
        long want = ((Number) ofModel.get(name).invoke(m, numbers)).longValue();
        if (got == want) { right++; return; }
        wrong++;
        if (wrong <= 20) System.out.println("[" + scene + "] " + name + List.of(numbers) + " answered " + got + ", due is " + want);
    }
}
