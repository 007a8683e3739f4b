import java.util.ArrayList;
import java.util.List;

/**
 * What the tests of the edges share: towns to stand in, numbers far outside, and a look at all that
 * the face can tell, by which a refused call is shown to have changed nothing.
 */
final class Bench {
    static final int UNKNOWN = -1, OUTSIDE = -2, STATE = -3, FULL = -4, NO = -5, NONE = -6;
    static final long GONE = -1000000000000000000L;

    /** Far outside, and such as come inside again where bits, bytes or shorts wrap around. */
    private static final int[] FAR = {Integer.MIN_VALUE, Integer.MIN_VALUE + 1, Integer.MIN_VALUE + 256, -(1 << 30), -1000000,
        -65536, -65535, -10000, -1000, -257, -256, -255, -100, -64, -33, -32, -31, -10, -7, -6, -5, -4, -3, -2, -1,
        8, 9, 10, 16, 31, 32, 33, 40, 63, 64, 65, 100, 127, 128, 255, 256, 257, 258, 512, 1000, 1024, 10000, 32768, 65535,
        65536, 65537, 65538, 1000000, 1 << 30, (1 << 30) + 1, Integer.MAX_VALUE - 255, Integer.MAX_VALUE - 1,
        Integer.MAX_VALUE};

    interface Scene { void build(CellarTides x); }
    interface Ask { long of(CellarTides x); }
    interface AskOf { long of(CellarTides x, int v); }

    private final String name;
    private int right = 0, wrong = 0;

    Bench(String name) { this.name = name; }

    // ---- towns

    static CellarTides town(Scene scene) {
        CellarTides x = new CellarTides();
        scene.build(x);
        return x;
    }

    static void asAtFirst(CellarTides x) { }

    static void say(CellarTides x, String signs) {
        for (int i = 0; i < signs.length(); i++) x.say(signs.charAt(i));
    }

    /** The pad holds these signs and no others. */
    static void pad(CellarTides x, String signs) {
        x.wipe();
        say(x, signs);
    }

    static void table(CellarTides x, String digits) {
        pad(x, digits);
        x.table();
    }

    /** Six cellars as at first, the level always 9; barrel b has size b and 1 and lies in b, 6 in a, 7 in b. */
    static void plain(CellarTides x) {
        x.cellars(6);
        table(x, "9");
        for (int b = 0; b < 8; b++) x.barrel(b, b % 6, b + 1, 0, b % 4);
    }

    /**
     * Nothing is as at first, both images are kept and differ, and each call whose own numbers are as
     * told is taken: all barrels are there, there is room, the moves can be, more sights and signs fit.
     */
    static void rich(CellarTides x) {
        x.cellars(5);
        table(x, "27182818");
        x.cellar(4, 0, 7);
        x.cellar(1, 1, 3);
        x.wall(3, true);
        for (int b = 0; b < 6; b++) x.barrel(b, b % 5, b + 2, b % 3, b % 4);
        for (int i = 0; i < 7; i++) x.set(i, 13 + i);
        x.seen(2, 4, x.acid(2, 4));
        x.image(0);
        x.cellars(6);
        x.cellar(5, 0, 8);
        x.cellar(2, 0, 0);
        x.cellar(4, 1, 4);
        x.cellar(5, 1, 7);
        x.wall(4, true);
        for (int b = 0; b < 8; b++) x.barrel(b, (b * 5 + 1) % 6, 9 - b, b / 3, (b + 1) % 4);
        for (int i = 0; i < 7; i++) x.set(i, 29 - 3 * i);
        x.seen(7, 3, x.acid(7, 3));
        x.seen(6, 2, 0);
        x.image(1);
        table(x, "161803398");
        x.set(2, 4);
        x.set(0, 35);
        x.wall(2, true);
        x.forget();
        for (int b = 1; b < 4; b++) x.seen(b, 3 * b, x.acid(b, 3 * b));
        pad(x, "0c.6d.7e..");
    }

    // ---- what is due

    void due(String what, long got, long want) {
        if (got == want) { right++; return; }
        wrong++;
        System.out.println(name + ": " + what + " answered " + got + ", due is " + want);
    }

    void due(String what, Scene scene, Ask call, long want) { due(what, call.of(town(scene)), want); }

    /** The call is refused so, and all is as in a town where it was not made. */
    void refused(String what, Scene scene, Ask call, long refusal) {
        due(what, scene, call, refusal);
        unchanged(what, scene, call);
    }

    void unchanged(String what, Scene scene, Ask call) {
        CellarTides asked = town(scene);
        call.of(asked);
        if (look(asked).equals(look(town(scene)))) { right++; return; }
        wrong++;
        System.out.println(name + ": " + what + " changed something");
    }

    /** A number is taken at both ends, with these answers, and refused on beyond, without a change. */
    void bound(String what, Scene scene, AskOf call, int[] ends, long[] answers, long refusal) {
        for (int i = 0; i < 2; i++) {
            int end = ends[i];
            due(what + " " + end, scene, x -> call.of(x, end), answers[i]);
            taken(what + " " + end + " in a rich town", call.of(town(Bench::rich), end), refusal);
        }
        for (int v : beyond(ends[0], ends[1])) {
            refused(what + " " + v, scene, x -> call.of(x, v), refusal);
            refused(what + " " + v + " in a rich town", Bench::rich, x -> call.of(x, v), refusal);
        }
    }

    private void taken(String what, long got, long refusal) {
        if (got != refusal) { right++; return; }
        wrong++;
        System.out.println(name + ": " + what + " was refused with " + got);
    }

    static int[] ends(int least, int most) { return new int[] {least, most}; }
    static long[] answers(long atLeast, long atMost) { return new long[] {atLeast, atMost}; }

    /** The next numbers beyond both ends, and those far outside. */
    static List<Integer> beyond(int least, int most) {
        List<Integer> all = new ArrayList<>();
        all.add(least - 1);
        all.add(most + 1);
        for (int v : FAR) if ((v < least - 1 || v > most + 1)) all.add(v);
        return all;
    }

    /** All that the face can tell: of the town as it is, and as each image has it. Some 350 calls. */
    static List<Long> look(CellarTides x) {
        List<Long> all = new ArrayList<>();
        lookOnce(x, all);
        for (int n = 0; n < 2; n++) {
            all.add((long) x.restore(n));
            lookOnce(x, all);
        }
        return all;
    }

    private static void lookOnce(CellarTides x, List<Long> all) {
        for (int i = 0; i < 8; i++) all.add((long) x.told(i));
        for (int k = 0; k < 6; k++) for (int ten = 10; ten < 40; ten += 10) all.add((long) x.told(ten + k));
        for (int k = 40; k < 44; k++) all.add((long) x.told(k));
        for (int b = 0; b < 8; b++) for (int i = 0; i < 4; i++) all.add((long) x.told(100 * (1 + b) + i));
        for (int day = 0; day < 30; day++) all.add((long) x.level(day));
        for (int how = 0; how < 2; how++) all.add((long) x.fault(how));
        for (int what = 0; what < 4; what++) all.add((long) x.judge(what));
        for (int b = 0; b < 8; b++) all.add((long) x.behind(b, 1));
        all.add((long) x.walls());
        all.add((long) x.moons());
        all.add((long) x.open(0));
        all.add((long) x.open(1));
    }

    void end() {
        System.out.println(name + ": " + right + " answers right, " + wrong + " wrong");
        if (wrong != 0) System.exit(1);
    }
}
