import java.util.ArrayList;
import java.util.List;
import java.util.Random;

/** Runs of drawn calls, each as long as the document promises, on the class and on the model; the draws are the same each time. */
public final class AgainstModelTest {
    private static final int[] WILD = {Integer.MIN_VALUE, Integer.MAX_VALUE, -7, -2, -1, 0, 1, 2, 6, 7, 8, 9, 10, 11,
        12, 29, 30, 31, 32, 33, 63, 64, 99, 100, 101, 126, 127, 255, 256, 257, 999, 1000, 9999, 10000, 1 << 30, -256};

    private final Random draw;
    private final CellarTides x = new CellarTides();
    private final Model m = new Model();
    private final List<String> log = new ArrayList<>();
    private int calls = 0;
    private boolean wrong = false;

    private AgainstModelTest(long seed) { draw = new Random(seed); }

    public static void main(String[] args) {
        int runs = args.length > 0 ? Integer.parseInt(args[0]) : 1200;
        long calls = 0;
        int bad = 0;
        for (int run = 0; run < runs && bad < 5; run++) {
            AgainstModelTest t = new AgainstModelTest(run);
            t.go(run);
            calls += t.calls;
            if (t.wrong) bad++;
        }
        System.out.println(calls + " calls against the model, " + bad + " runs wrong");
        if (bad != 0) System.exit(1);
    }

    private int num(int a, int b) { return a + draw.nextInt(b - a + 1); }

    /** Mostly a number as told, now and then one that is not. */
    private int arg(int a, int b) {
        int luck = draw.nextInt(40);
        if (luck == 0) return WILD[draw.nextInt(WILD.length)];
        if (luck == 1) return draw.nextBoolean() ? a - 1 : b + 1;
        if (luck == 2) return draw.nextBoolean() ? a : b;
        return num(a, b);
    }

    private int days() { return draw.nextInt(3) == 0 ? arg(0, 999) : arg(0, 30); }

    private int someBarrel() {
        for (int i = 0; i < 6; i++) {
            int b = num(0, 7);
            if (m.there(b)) return b;
        }
        return arg(0, 7);
    }

    private int someSet() {
        int there = m.told(2);
        int luck = draw.nextInt(10);
        if (luck == 0) return arg(0, 255);
        int set = there & draw.nextInt(256);
        return luck < 6 ? set & draw.nextInt(256) : set;
    }

    /** What an object answers behind the last call that is promised is free. */
    private void same(String call, long got, long want) {
        if (calls >= Script.MOST_CALLS) return;
        calls++;
        log.add(call + " = " + want);
        if (got != want && !wrong) {
            wrong = true;
            System.out.println(log);
            System.out.println(call + " answered " + got + ", due is " + want);
        }
    }

    private void go(int run) {
        if (draw.nextInt(2) == 0) town();
        while (calls < Script.MOST_CALLS && !wrong) {
            if (draw.nextInt(5) < 2) change(); else ask();
        }
    }

    private void town() {
        cellars(num(1, 6));
        text(digits(num(1, 30)));
        table();
        int n = num(2, 8);
        for (int i = 0; i < n; i++) barrel(num(0, 7));
    }

    private void cellars(int n) { same("cellars(" + n + ")", x.cellars(n), m.cellars(n)); }
    private void table() { same("table()", x.table(), m.table()); }

    private void barrel(int b) {
        int c = arg(0, m.w.n - 1), s = arg(1, 9), k = draw.nextInt(3) == 0 ? arg(0, 9) : arg(0, 3), kind = arg(0, 3);
        same("barrel(" + b + ", " + c + ", " + s + ", " + k + ", " + kind + ")", x.barrel(b, c, s, k, kind), m.barrel(b, c, s, k, kind));
    }

    private void text(String s) {
        for (int i = 0; i < s.length(); i++) same("say(" + (int) s.charAt(i) + ")", x.say(s.charAt(i)), m.say(s.charAt(i)));
    }

    private String digits(int n) {
        StringBuilder s = new StringBuilder();
        int over = draw.nextInt(3) == 0 ? num(1, n) : n;
        int most = num(0, 9);
        for (int i = 0; i < n; i++) s.append(i >= over ? s.charAt(i - over) : (char) ('0' + num(0, most)));
        return s.toString();
    }

    private String moves() {
        StringBuilder s = new StringBuilder();
        int n = num(0, 14);
        for (int i = 0; i < n; i++) {
            if (draw.nextInt(2) == 0) s.append('.');
            else s.append((char) ('0' + Math.max(0, Math.min(9, someBarrel())))).append((char) ('a' + num(0, m.w.n - 1)));
        }
        if (draw.nextInt(12) == 0) s.append((char) num(33, 126));
        if (draw.nextInt(12) == 0) s.append((char) num('0', '9'));
        return s.toString();
    }

    private void change() {
        switch (draw.nextInt(14)) {
            case 0: if (draw.nextInt(6) == 0) cellars(arg(1, 6)); break;
            case 1: {
                int c = arg(0, m.w.n - 1), what = arg(0, 1), v = arg(0, 8);
                same("cellar(" + c + ", " + what + ", " + v + ")", x.cellar(c, what, v), m.cellar(c, what, v));
                break;
            }
            case 2: {
                int c = arg(0, m.w.n - 1);
                boolean wall = draw.nextInt(3) == 0;
                same("wall(" + c + ", " + wall + ")", x.wall(c, wall), m.wall(c, wall));
                break;
            }
            case 3: case 4: case 5: barrel(arg(0, 7)); break;
            case 6: { int b = someBarrel(); if (draw.nextInt(2) == 0) same("drink(" + b + ")", x.drink(b), m.drink(b)); break; }
            case 7: {
                int which = arg(0, 6);
                int v = which == 0 && draw.nextBoolean() ? arg(1, 40) : which == 2 ? arg(0, 29) : arg(0, 99);
                same("set(" + which + ", " + v + ")", x.set(which, v), m.set(which, v));
                break;
            }
            case 8: if (draw.nextInt(4) != 0) same("wipe()", x.wipe(), m.wipe()); text(moves()); break;
            case 9:
                if (draw.nextInt(4) != 0) same("wipe()", x.wipe(), m.wipe());
                text(digits(draw.nextInt(2) == 0 ? num(1, 12) : num(1, 33)));
                table();
                break;
            case 10: { int s = arg(33, 126); same("say(" + s + ")", x.say(s), m.say(s)); break; }
            case 11: {
                int b = someBarrel(), d = arg(0, 30), v = arg(0, 99);
                if (m.there(b) && draw.nextInt(4) != 0 && d >= 0 && d <= 30) v = m.acidOf(b, d) + (draw.nextInt(3) == 0 ? 1 : 0);
                if (m.w.sights.size() > 1 && draw.nextInt(4) != 0) same("forget()", x.forget(), m.forget());
                same("seen(" + b + ", " + d + ", " + v + ")", x.seen(b, d, v), m.seen(b, d, v));
                break;
            }
            case 12: { int n = arg(0, 1); same("image(" + n + ")", x.image(n), m.image(n)); break; }
            default: { int n = arg(0, 1); if (draw.nextInt(3) == 0) same("restore(" + n + ")", x.restore(n), m.restore(n)); break; }
        }
    }

    private void ask() {
        int b = someBarrel(), d = days(), c = arg(0, 10), what = arg(0, 1), one = draw.nextInt(3) == 0 ? -1 : b;
        switch (draw.nextInt(26)) {
            case 0: { int how = arg(0, 1); same("fault(" + how + ")", x.fault(how), m.fault(how)); break; }
            case 1: same("level(" + d + ")", x.level(d), m.level(d)); break;
            case 2: { int k = arg(0, m.w.n - 1); same("breath(" + k + ", " + d + ")", x.breath(k, d), m.breath(k, d)); break; }
            case 3: { int j = arg(0, 3); same("judge(" + j + ")", x.judge(j), m.judge(j)); break; }
            case 4: same("behind(" + b + ", " + what + ")", x.behind(b, what), m.behind(b, what)); break;
            case 5: same("hands()", x.hands(), m.hands()); break;
            case 6: same("acid(" + b + ", " + d + ")", x.acid(b, d), m.acid(b, d)); break;
            case 7: same("sours(" + b + ")", x.sours(b), m.sours(b)); break;
            case 8: same("lost(" + d + ")", x.lost(d), m.lost(d)); break;
            case 9: case 10: {
                int set = someSet();
                same("plan(" + set + ", " + d + ", " + one + ")", x.plan(set, d, one), m.plan(set, d, one));
                break;
            }
            case 11: { int e = arg(0, 99); same("value(" + b + ", " + e + ")", x.value(b, e), m.value(b, e)); break; }
            case 12: same("opening(" + b + ", " + what + ")", x.opening(b, what), m.opening(b, what)); break;
            case 13: same("banquet(" + what + ")", x.banquet(what), m.banquet(what)); break;
            case 14: case 15: same("poured(" + d + ", " + one + ")", x.poured(d, one), m.poured(d, one)); break;
            case 16: { int e = arg(0, 10); same("likely(" + b + ", " + e + ", " + c + ", " + what + ")", x.likely(b, e, c, what), m.likely(b, e, c, what)); break; }
            case 17: { int e = arg(0, 10); same("mean(" + e + ", " + c + ", " + what + ")", x.mean(e, c, what), m.mean(e, c, what)); break; }
            case 18: same("walls()", x.walls(), m.walls()); break;
            case 19: same("moons()", x.moons(), m.moons()); break;
            case 20: same("open(" + what + ")", x.open(what), m.open(what)); break;
            case 21: {
                int t = arg(0, 9), r = draw.nextBoolean() ? arg(1, 5) : arg(1, 30);
                same("shifts(" + t + ", " + r + ", " + what + ")", x.shifts(t, r, what), m.shifts(t, r, what));
                break;
            }
            case 22: same("drought(" + d + ")", x.drought(d), m.drought(d)); break;
            case 23: { int k = arg(0, m.w.n - 1); same("quiet(" + k + ")", x.quiet(k), m.quiet(k)); same("period()", x.period(), m.period()); break; }
            case 24: {
                int seed = arg(0, 9999), days = draw.nextBoolean() ? arg(1, 40) : arg(1, 999), k = draw.nextBoolean() ? arg(1, 5) : arg(1, 99);
                same("year(" + seed + ", " + days + ", " + k + ", " + what + ")", x.year(seed, days, k, what), m.year(seed, days, k, what));
                break;
            }
            default: all(); break;
        }
    }

    /** All that can be told of the state. */
    private void all() {
        for (int i = 0; i < 50; i++) same("told(" + i + ")", x.told(i), m.told(i));
        for (int i = 0; i < 5; i++) {
            int t = arg(0, 904);
            same("told(" + t + ")", x.told(t), m.told(t));
        }
        for (int i = 1; i < 9; i++) for (int k = 0; k < 5; k++) same("told(" + (100 * i + k) + ")", x.told(100 * i + k), m.told(100 * i + k));
    }
}
