/**
 * Each number that the document bounds: the last that is taken and the first that is not, at both
 * ends, and numbers far outside, which are refused and change nothing.
 */
public final class BoundsTest {
    private static final Bench bench = new Bench("bounds");
    private static final int UNKNOWN = Bench.UNKNOWN, OUTSIDE = Bench.OUTSIDE, FULL = Bench.FULL, NONE = Bench.NONE;
    private static final long GONE = Bench.GONE;

    private static void bound(String what, Bench.Scene scene, Bench.AskOf call, int least, int most, long atLeast, long atMost, long refusal) {
        bench.bound(what, scene, call, Bench.ends(least, most), Bench.answers(atLeast, atMost), refusal);
    }

    public static void main(String[] args) {
        richTown();
        cellars(); cellarNumbers(); depthAndRoom(); walls(); barrels(); settings();
        signs(); signsOfTables(); signsOfMoves(); lettersOfCellars(); digitsOfTables();
        days(); whats(); barrelNumbers(); plans(); openings(); pouring();
        doors(); sights(); shifts(); years(); images(); told();
        bench.end();
    }

    private static CellarTides plain() { return Bench.town(Bench::plain); }

    /** What Bench says of its rich town, or the bounds were shown in a town that refuses for another reason. */
    private static void richTown() {
        CellarTides x = Bench.town(Bench::rich);
        bench.due("rich: all barrels", x.told(2), 255);
        bench.due("rich: six cellars", x.told(1), 6);
        bench.due("rich: the moves can be", x.judge(0), NONE);
        bench.due("rich: few enough digits for shifts", x.told(6), 9);
        bench.due("rich: sights", x.told(7), 3);
        bench.due("rich: the sights hold by this phase", x.moons() >> x.told(5) & 1, 1);
        bench.due("rich: image 0", x.restore(0), 1);
        bench.due("rich: image 0 has five cellars", x.told(1), 5);
        bench.due("rich: image 1", x.restore(1), 1);
        bench.due("rich: image 1 has two sights", x.told(7), 2);
    }

    private static void cellars() {
        bound("cellars(n)", Bench::plain, (x, v) -> x.cellars(v), 1, 6, 6, 6, OUTSIDE);
        for (int n = 1; n <= 6; n++) {
            CellarTides x = plain();
            x.cellars(n);
            bench.due("there are " + n, x.told(1), n);
            bench.due("the last is as deep as its number", x.told(9 + n), n - 1);
            bench.due("no other", x.told(10 + n), OUTSIDE);
        }
    }

    /** Wherever a call names a cellar: 0 to n less 1, for each n. */
    private static void cellarNumbers() {
        bound("cellar(k, 0, 8)", Bench::plain, (x, v) -> x.cellar(v, 0, 8), 0, 5, 0, 5, UNKNOWN);
        bound("cellar(k, 1, 8)", Bench::plain, (x, v) -> x.cellar(v, 1, 8), 0, 5, 8, 8, UNKNOWN);
        bound("wall(k, true)", Bench::plain, (x, v) -> x.wall(v, true), 0, 5, 1, 1, UNKNOWN);
        bound("wall(k, false)", Bench::plain, (x, v) -> x.wall(v, false), 0, 5, 1, 1, UNKNOWN);
        bound("barrel in k", Bench::plain, (x, v) -> x.barrel(0, v, 1, 0, 0), 0, 5, 8, 8, UNKNOWN);
        bound("breath(k, 0)", Bench::plain, (x, v) -> x.breath(v, 0), 0, 5, 9, 4, UNKNOWN);
        bound("quiet(k)", BoundsTest::tenLevels, (x, v) -> x.quiet(v), 0, 5, 1, 6, UNKNOWN);
        for (int n = 1; n <= 5; n++) ofFewerCellars(n);
    }

    private static void ofFewerCellars(int n) {
        Bench.Scene few = x -> x.cellars(n);
        Bench.AskOf[] calls = {(x, v) -> x.cellar(v, 0, v), (x, v) -> x.cellar(v, 1, 1), (x, v) -> x.wall(v, true),
            (x, v) -> x.barrel(0, v, 1, 0, 0), (x, v) -> x.breath(v, 1), (x, v) -> x.quiet(v)};
        long[] last = {n - 1, 8, 1, 1, Math.max(0, 5 - (n - 1)), 1};
        for (int i = 0; i < calls.length; i++) {
            Bench.AskOf call = calls[i];
            bench.due("call " + i + ": the last of " + n, few, x -> call.of(x, n - 1), last[i]);
            bench.refused("call " + i + ": one more than of " + n, few, x -> call.of(x, n), UNKNOWN);
        }
    }

    private static void tenLevels(CellarTides x) {
        Bench.plain(x);
        Bench.table(x, "0123456789");
    }

    private static void depthAndRoom() {
        bound("cellar(2, what, 4)", Bench::plain, (x, v) -> x.cellar(2, v, 4), 0, 1, 2, 8, OUTSIDE);
        bound("depth", Bench::plain, (x, v) -> x.cellar(2, 0, v), 0, 8, 2, 2, OUTSIDE);
        bound("room", Bench::plain, (x, v) -> x.cellar(2, 1, v), 1, 8, 8, 8, OUTSIDE);
        for (int v = 0; v <= 8; v++) {
            CellarTides x = plain();
            x.cellar(2, 0, v);
            bench.due("depth " + v + " is kept", x.told(12), v);
            bench.due("breath of 9 there", x.breath(2, 0), 9 - v);
            if (v == 0) continue;
            x.cellar(2, 1, v);
            bench.due("room " + v + " is kept", x.told(22), v);
        }
    }

    private static void walls() {
        for (int k = 0; k < 6; k++) {
            CellarTides x = plain();
            x.wall(k, true);
            for (int other = 0; other < 6; other++) {
                bench.due("wall of " + k + ": told of " + other, x.told(30 + other), other == k ? 1 : 0);
                bench.due("wall of " + k + ": breath of " + other, x.breath(other, 0), other == k ? 0 : 9 - other);
            }
        }
    }

    private static void barrels() {
        bound("barrel b", Bench::plain, (x, v) -> x.barrel(v, 0, 1, 0, 0), 0, 7, 8, 8, UNKNOWN);
        bound("barrel b, the first one", Bench::asAtFirst, (x, v) -> x.barrel(v, 0, 1, 0, 0), 0, 7, 1, 1, UNKNOWN);
        bound("size", Bench::plain, (x, v) -> x.barrel(0, 0, v, 0, 0), 1, 9, 8, 8, OUTSIDE);
        bound("cork", Bench::plain, (x, v) -> x.barrel(0, 0, 1, v, 0), 0, 9, 8, 8, OUTSIDE);
        bound("kind", Bench::plain, (x, v) -> x.barrel(0, 0, 1, 0, v), 0, 3, 8, 8, OUTSIDE);
        bound("drink(b)", Bench::plain, (x, v) -> x.drink(v), 0, 7, 7, 7, UNKNOWN);
        int[][] all = {{0, 1, 0, 0}, {5, 9, 9, 3}};
        for (int[] one : all) {
            for (int b = 0; b < 8; b += 7) {
                CellarTides x = plain();
                x.barrel(b, one[0], one[1], one[2], one[3]);
                for (int i = 0; i < 4; i++) bench.due("barrel " + b + " is kept: " + i, x.told(100 * (b + 1) + i), one[i]);
            }
        }
    }

    private static void settings() {
        int[] least = {1, 0, 0, 0, 0, 0, 0}, most = {99, 99, 29, 99, 99, 99, 99}, first = {20, 20, 0, 20, 20, 20, 20};
        int[] told = {3, 4, 5, 40, 41, 42, 43};
        bound("set(which, 1)", Bench::plain, (x, v) -> x.set(v, 1), 0, 6, 20, 20, OUTSIDE);
        for (int i = 0; i < 7; i++) {
            int which = i;
            bound("set " + which, Bench::plain, (x, v) -> x.set(which, v), least[i], most[i], first[i], first[i], OUTSIDE);
            for (int v : new int[] {least[i], most[i]}) {
                CellarTides x = plain();
                x.set(i, v);
                for (int j = 0; j < 7; j++) bench.due("set " + i + " to " + v + ": told of " + j, x.told(told[j]), j == i ? v : first[j]);
            }
        }
    }

    private static void signs() {
        bound("say(sign)", Bench::plain, (x, v) -> x.say(v), 33, 126, 1, 1, OUTSIDE);
        for (int sign = 0; sign < 256; sign++) {
            int one = sign;
            bench.due("sign " + sign, Bench::asAtFirst, x -> x.say(one), sign >= 33 && sign <= 126 ? 1 : OUTSIDE);
        }
        bound("fault(how)", Bench::plain, (x, v) -> x.fault(v), 0, 1, 0, NONE, OUTSIDE);
    }

    /** Each sign that can be said, at the first place, behind others, and at the last one. */
    private static void signsOfTables() {
        for (char sign = 33; sign <= 126; sign++) {
            boolean digit = sign >= '0' && sign <= '9';
            String[] ahead = {"", "7", "0123456789", "01234567890123456789012345678"};
            for (String text : ahead) {
                CellarTides x = new CellarTides();
                Bench.say(x, text + sign);
                bench.due("as a table: " + text + sign, x.fault(0), digit ? NONE : text.length());
                bench.due("table: " + text + sign, x.table(), digit ? text.length() + 1 : Bench.NO);
                bench.due("signs behind table: " + text + sign, x.told(0), digit ? 0 : text.length() + 1);
            }
            CellarTides x = new CellarTides();
            Bench.say(x, sign + "0");
            bench.due("as a table: " + sign + "0", x.fault(0), digit ? NONE : 0);
        }
    }

    private static void signsOfMoves() {
        for (char sign = 33; sign <= 126; sign++) {
            boolean barrel = sign >= '0' && sign <= '7', letter = sign >= 'a' && sign <= 'c';
            for (String text : new String[] {"", ".", "0a", "7c..3b"}) {
                CellarTides x = new CellarTides();
                Bench.say(x, text + sign);
                int due = sign == '.' ? NONE : barrel ? text.length() + 1 : text.length();
                bench.due("as moves: " + text + sign, x.fault(1), due);
                x.say('a');
                bench.due("as moves: " + text + sign + "a", x.fault(1), sign == '.' ? text.length() + 1 : barrel ? NONE : text.length());
            }
            CellarTides x = new CellarTides();
            Bench.say(x, "4" + sign);
            bench.due("as moves: 4" + sign, x.fault(1), letter ? NONE : 1);
        }
    }

    private static void lettersOfCellars() {
        for (int n = 1; n <= 6; n++) {
            for (char letter = 'a'; letter <= 'g'; letter++) {
                CellarTides x = new CellarTides();
                x.cellars(n);
                Bench.say(x, ".0" + letter);
                bench.due("letter " + letter + " of " + n, x.fault(1), letter - 'a' < n ? NONE : 2);
                bench.due("why, letter " + letter + " of " + n, x.judge(1), letter - 'a' < n ? 1 : Bench.NO);
            }
        }
    }

    private static void digitsOfTables() {
        for (int n = 0; n <= 60; n++) {
            CellarTides x = new CellarTides();
            Bench.say(x, "8".repeat(n));
            int fault = n == 0 ? 0 : n > 30 ? 30 : NONE;
            bench.due(n + " digits", x.fault(0), fault);
            bench.due("table of " + n, x.table(), fault == NONE ? n : Bench.NO);
            bench.due("told of " + n, x.told(6), fault == NONE ? n : 2);
            bench.due("signs of " + n, x.told(0), fault == NONE ? 0 : n);
            bench.due("level by " + n, x.level(999), fault == NONE ? 8 : 5);
        }
        bench.refused("an empty table", Bench::plain, x -> x.table(), Bench.NO);
        bench.refused("a table of 31", x -> Bench.say(x, "8".repeat(31)), x -> x.table(), Bench.NO);
        bench.refused("a table of 60", x -> Bench.say(x, "8".repeat(60)), x -> x.table(), Bench.NO);
        for (char digit = '0'; digit <= '9'; digit++) {
            CellarTides x = new CellarTides();
            Bench.table(x, "" + digit);
            bench.due("a table of " + digit, x.level(0), digit - '0');
        }
    }

    private static void days() {
        bound("level(day)", BoundsTest::tenLevels, (x, v) -> x.level(v), 0, 999, 0, 9, OUTSIDE);
        bound("breath(1, day)", BoundsTest::tenLevels, (x, v) -> x.breath(1, v), 0, 999, 0, 8, OUTSIDE);
        bound("acid(0, d)", Bench::plain, (x, v) -> x.acid(0, v), 0, 999, 0, 99, OUTSIDE);
        bound("lost(d)", Bench::plain, (x, v) -> x.lost(v), 0, 999, 0, 36, OUTSIDE);
        bound("drought(d)", Bench::plain, (x, v) -> x.drought(v), 0, 999, 0, 9, OUTSIDE);
    }

    private static void whats() {
        Bench.Scene twoDays = x -> { Bench.plain(x); Bench.pad(x, ".."); };
        bound("judge(what)", twoDays, (x, v) -> x.judge(v), 0, 3, NONE, 2, OUTSIDE);
        bound("behind(7, what)", twoDays, (x, v) -> x.behind(7, v), 0, 1, 1, 16, OUTSIDE);
        bound("opening(7, what)", Bench::plain, (x, v) -> x.opening(7, v), 0, 1, 0, 240, OUTSIDE);
        bound("banquet(what)", Bench::plain, (x, v) -> x.banquet(v), 0, 1, 0, 1080, OUTSIDE);
        Bench.Scene oneDoor = x -> { Bench.plain(x); x.seen(0, 2, 19); };
        bound("open(what)", oneDoor, (x, v) -> x.open(v), 0, 1, 2, 0, OUTSIDE);
    }

    /** Wherever a call names a barrel that must be there: 0 to 7, if all are. */
    private static void barrelNumbers() {
        bound("behind(b, 0)", Bench::plain, (x, v) -> x.behind(v, 0), 0, 7, 0, 1, UNKNOWN);
        bound("acid(b, 1)", Bench::plain, (x, v) -> x.acid(v, 1), 0, 7, 9, 8, UNKNOWN);
        bound("sours(b)", Bench::plain, (x, v) -> x.sours(v), 0, 7, 3, 3, UNKNOWN);
        bound("value(b, 0)", Bench::plain, (x, v) -> x.value(v, 0), 0, 7, 30, 240, UNKNOWN);
        bound("opening(b, 1)", Bench::plain, (x, v) -> x.opening(v, 1), 0, 7, 30, 240, UNKNOWN);
        bound("seen(b, 0, 0)", Bench::plain, (x, v) -> x.seen(v, 0, 0), 0, 7, 1, 1, UNKNOWN);
        Bench.AskOf[] calls = {(x, v) -> x.drink(v), (x, v) -> x.behind(v, 0), (x, v) -> x.acid(v, 1), (x, v) -> x.sours(v),
            (x, v) -> x.value(v, 0), (x, v) -> x.opening(v, 1), (x, v) -> x.seen(v, 0, 0), (x, v) -> x.poured(0, v),
            (x, v) -> x.likely(v, 1, 1, 0)};
        for (int b = 0; b < 8; b++) {
            int one = b;
            Bench.Scene without = x -> { Bench.rich(x); x.drink(one); };
            for (int i = 0; i < calls.length; i++) {
                Bench.AskOf call = calls[i];
                long refusal = i == calls.length - 1 ? GONE + UNKNOWN : UNKNOWN;
                bench.refused("call " + i + " of " + b + ", which is not there", without, x -> call.of(x, one), refusal);
            }
        }
    }

    private static void plans() {
        bound("plan(set, 0, -1)", Bench::plain, (x, v) -> x.plan(v, 0, -1), 0, 255, 0, FULL, OUTSIDE);
        bound("plan(1, d, -1)", Bench::plain, (x, v) -> x.plan(1, v, -1), 0, 999, 0, NONE, OUTSIDE);
        bound("plan(129, 0, barrel)", Bench::plain, (x, v) -> x.plan(129, 0, v), -1, 7, 0, 1, UNKNOWN);
        for (int set = 0; set < 256; set++) {
            int all = set, count = Integer.bitCount(set);
            bench.due("plan of set " + set, Bench::plain, x -> x.plan(all, 0, -1), count > 4 ? FULL : 0);
            for (int b = 0; b < 8; b++) {
                int one = b;
                int due = (set >> b & 1) == 0 ? UNKNOWN : count > 4 ? FULL : b % 6;
                bench.due("plan of set " + set + ", of " + b, Bench::plain, x -> x.plan(all, 0, one), due);
            }
        }
        for (int b = 0; b < 8; b++) {
            int bit = 1 << b, one = b;
            Bench.Scene without = x -> { Bench.rich(x); x.drink(one); };
            bench.refused("plan of " + b + ", which is not there", without, x -> x.plan(bit, 0, -1), OUTSIDE);
            bench.refused("plan of all but that " + b + " is not there", without, x -> x.plan(255, 0, -1), OUTSIDE);
        }
    }

    private static void openings() {
        // no breath at all; size 1, kind 0: 50 less how far it is from day 50
        Bench.Scene still = x -> { Bench.plain(x); Bench.table(x, "0"); x.set(3, 50); };
        bound("value(0, d)", still, (x, v) -> x.value(0, v), 0, 99, 0, 1, OUTSIDE);
        for (int peak : new int[] {0, 1, 98, 99}) {
            CellarTides x = Bench.town(still);
            x.set(3, peak);
            bench.due("opening, peak " + peak, x.opening(0, 0), peak);
            bench.due("value there, peak " + peak, x.opening(0, 1), 50);
            bench.due("value on its day, peak " + peak, x.value(0, peak), 50);
        }
    }

    private static void pouring() {
        bound("poured(d, -1)", Bench::plain, (x, v) -> x.poured(v, -1), 0, 999, 36, 0, OUTSIDE);
        bound("poured(d, 7)", Bench::plain, (x, v) -> x.poured(v, 7), 0, 999, 7, 7, OUTSIDE);
        bound("poured(0, barrel)", Bench::plain, (x, v) -> x.poured(0, v), -1, 7, 36, 7, UNKNOWN);
    }

    private static void doors() {
        // sour of 9: on one shut day barrels 0 and 6, on one open day 1 and 7 too
        Bench.Scene nine = x -> { Bench.plain(x); x.set(0, 9); };
        bound("likely(b, 1, 5, 1)", nine, (x, v) -> x.likely(v, 1, 5, 1), 0, 7, 1, 2, GONE + UNKNOWN);
        bound("likely(7, d, 5, 0)", nine, (x, v) -> x.likely(7, v, 5, 0), 0, 10, 0, 1, GONE + OUTSIDE);
        bound("likely(7, 1, c, 0)", nine, (x, v) -> x.likely(7, 1, v, 0), 0, 10, 0, 1, GONE + OUTSIDE);
        bound("likely(7, 1, 3, part)", nine, (x, v) -> x.likely(7, 1, 3, v), 0, 1, 3, 10, GONE + OUTSIDE);
        bound("mean(d, 10, 0)", nine, (x, v) -> x.mean(v, 10, 0), 0, 10, 0, 36, GONE + OUTSIDE);
        bound("mean(1, c, 0)", nine, (x, v) -> x.mean(1, v, 0), 0, 10, 8, 18, GONE + OUTSIDE);
        bound("mean(1, 3, part)", nine, (x, v) -> x.mean(1, 3, v), 0, 1, 11, 1, GONE + OUTSIDE);
        for (int c = 0; c <= 10; c++) {
            // 8 and c tenths of 10 are whole; c tenths of 1 are not always
            CellarTides x = Bench.town(nine);
            int[] upper = {0, 1, 1, 3, 2, 1, 3, 7, 4, 9, 1}, lower = {1, 10, 5, 10, 5, 2, 5, 10, 5, 10, 1};
            bench.due("likely by " + c + " tenths", x.likely(7, 1, c, 0), upper[c]);
            bench.due("likely by " + c + " tenths, of", x.likely(7, 1, c, 1), lower[c]);
            bench.due("mean by " + c + " tenths", x.mean(1, c, 0), 8 + c);
            bench.due("mean by " + c + " tenths, of", x.mean(1, c, 1), 1);
        }
    }

    private static void sights() {
        bound("seen(0, d, 0)", Bench::plain, (x, v) -> x.seen(0, v, 0), 0, 30, 1, 1, OUTSIDE);
        bound("seen(0, 0, v)", Bench::plain, (x, v) -> x.seen(0, 0, v), 0, 99, 1, 1, OUTSIDE);
    }

    private static void shifts() {
        bound("shifts(t, 1, 0)", BoundsTest::tenLevels, (x, v) -> x.shifts(v, 1, 0), 0, 9, 10, 1, OUTSIDE);
        bound("shifts(0, r, 0)", BoundsTest::tenLevels, (x, v) -> x.shifts(0, v, 0), 1, 30, 10, 1, OUTSIDE);
        bound("shifts(9, 1, what)", BoundsTest::tenLevels, (x, v) -> x.shifts(9, 1, v), 0, 1, 1, 512, OUTSIDE);
        for (int t = 0; t <= 9; t++) {
            int level = t;
            bench.due("shifts from level " + t, BoundsTest::tenLevels, x -> x.shifts(level, 1, 0), 10 - t);
            bench.due("days from level " + t, BoundsTest::tenLevels, x -> x.shifts(level, 1, 1), 1023 & -(1 << t));
        }
        for (int n = 1; n <= 30; n++) {
            int digits = n;
            Bench.Scene long1 = x -> Bench.table(x, "5".repeat(digits));
            if (n <= 12) {
                bench.due("shifts over " + n, long1, x -> x.shifts(5, 1, 0), n);
                bench.due("days over " + n, long1, x -> x.shifts(5, 1, 1), (1 << n) - 1);
            } else {
                bench.refused("shifts over " + n, long1, x -> x.shifts(5, 1, 0), FULL);
                bench.refused("days over " + n, long1, x -> x.shifts(5, 1, 1), FULL);
            }
        }
    }

    private static void years() {
        bound("year(seed, 1, 1, 1)", Bench::plain, (x, v) -> x.year(v, 1, 1, 1), 0, 9999, 1, 1, OUTSIDE);
        bound("year(0, m, 1, 1)", Bench::plain, (x, v) -> x.year(0, v, 1, 1), 1, 999, 1, 999, OUTSIDE);
        // the first x from 0 is 74
        bound("year(0, 1, c, 1)", Bench::plain, (x, v) -> x.year(0, 1, v, 1), 1, 99, 1, 0, OUTSIDE);
        bound("year(0, 9, 1, what)", Bench::plain, (x, v) -> x.year(0, 9, 1, v), 0, 1, 36, 9, OUTSIDE);
        for (int c = 1; c <= 99; c++) {
            int of = c;
            bench.due("first day by " + c, Bench::plain, x -> x.year(0, 1, of, 1), 74 % c == 0 ? 1 : 0);
            // from 9999: 749999 less 11 times 65537 is 29092
            bench.due("first day from 9999 by " + c, Bench::plain, x -> x.year(9999, 1, of, 1), 29092 % c == 0 ? 1 : 0);
        }
    }

    private static void images() {
        bound("image(n)", Bench::plain, (x, v) -> x.image(v), 0, 1, 1, 1, OUTSIDE);
        Bench.Scene kept = x -> { Bench.plain(x); x.image(0); x.image(1); };
        bound("restore(n)", kept, (x, v) -> x.restore(v), 0, 1, 1, 1, OUTSIDE);
    }

    /** Every number from -120 to 1120, for each count of cellars, with barrels 0, 3 and 7 or none. */
    private static void told() {
        for (int n = 1; n <= 6; n++) {
            for (int what = -120; what <= 1120; what++) {
                bench.due("told(" + what + ") of " + n + " cellars", someBarrels(n).told(what), dueTold(what, n));
            }
        }
        for (int what : Bench.beyond(0, 903)) {
            bench.refused("told(" + what + ")", Bench::rich, x -> x.told(what), OUTSIDE);
        }
    }

    private static CellarTides someBarrels(int n) {
        CellarTides x = new CellarTides();
        x.cellars(n);
        for (int b : new int[] {0, 3, 7}) x.barrel(b, n - 1, b + 2, b + 1, b % 4);
        return x;
    }

    private static int dueTold(int what, int n) {
        int[] first = {0, n, 137, 20, 20, 0, 2, 0};
        if (what >= 0 && what < 8) return first[what];
        if (what >= 10 && what < 10 + n) return what - 10;
        if (what >= 20 && what < 20 + n) return 8;
        if (what >= 30 && what < 30 + n) return 0;
        if (what >= 40 && what < 44) return 20;
        for (int b : new int[] {0, 3, 7}) {
            int[] of = {n - 1, b + 2, b + 1, b % 4};
            int i = what - 100 * (1 + b);
            if (i >= 0 && i < 4) return of[i];
        }
        return OUTSIDE;
    }
}
