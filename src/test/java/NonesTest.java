/** For each NONE: a case in which it is answered, and the nearest one in which it is not. */
public final class NonesTest {
    private static final Bench bench = new Bench("none");
    private static final int NONE = Bench.NONE;
    private static CellarTides x;

    private static void due(String what, long got, long want) { bench.due(what, got, want); }
    private static void begin() { x = new CellarTides(); }

    public static void main(String[] args) {
        faultOfTables(); faultOfMoves();
        judgeOne(); judgeTwo(); judgeThree(); judgeFour(); handsOf();
        sours(); soursByOneDay(); planByDays(); planByRoom(); planOfMany(); openFirst(); quiet();
        bench.end();
    }

    private static void fault(int how, String signs, int want) {
        Bench.pad(x, signs);
        due("fault of " + signs, x.fault(how), want);
    }

    private static void faultOfTables() {
        begin();
        fault(0, "0", NONE);
        fault(0, "", 0);
        fault(0, "/", 0);
        fault(0, ":", 0);
        fault(0, "9", NONE);
        fault(0, "09", NONE);
        fault(0, "0.", 1);
        fault(0, "a9", 0);
        fault(0, "5".repeat(30), NONE);
        fault(0, "5".repeat(31), 30);
        fault(0, "5".repeat(29) + "x", 29);
        fault(0, "5".repeat(30) + "x", 30);
    }

    private static void faultOfMoves() {
        begin();
        fault(1, "", NONE);
        fault(1, ".", NONE);
        fault(1, "/", 0);
        fault(1, "-", 0);
        fault(1, "0", 1);
        fault(1, "0c", NONE);
        fault(1, "0d", 1);
        fault(1, "7a", NONE);
        fault(1, "8a", 0);
        fault(1, "0A", 1);
        fault(1, "00a", 1);
        fault(1, "0aa", 2);
        fault(1, "0a.", NONE);
        fault(1, "0.a", 1);
        fault(1, "0a1", 3);
        fault(1, "0a1b", NONE);
        fault(1, "0c".repeat(30), NONE);
        fault(1, "0c".repeat(29) + "0", 59);
        fault(1, "0c".repeat(29) + ".0", 60);
        x.cellars(4);
        fault(1, "0d", NONE);
        fault(1, "0e", 1);
        x.cellars(1);
        fault(1, "0a", NONE);
        fault(1, "0b", 1);
    }

    private static void judged(String when, int part, int why) {
        due(when + ": part", x.judge(0), part);
        due(when + ": why", x.judge(1), why);
    }

    private static void judgeOne() {
        begin();
        Bench.say(x, "..4b");
        judged("4 is not there", 2, 1);
        x.barrel(4, 0, 1, 0, 0);
        judged("4 is there", NONE, NONE);
        x.drink(4);
        judged("4 was drunk", 2, 1);
    }

    private static void judgeTwo() {
        begin();
        Bench.say(x, "0b.0a");
        x.barrel(0, 1, 1, 0, 0);
        judged("0 lies in b", 0, 2);
        x.barrel(0, 0, 1, 0, 0);
        judged("0 lies in a", NONE, NONE);
        x.barrel(0, 2, 1, 0, 0);
        judged("0 lies in c", NONE, NONE);
        Bench.pad(x, "0b.0b");
        judged("it went to b", 2, 2);
    }

    private static void judgeThree() {
        begin();
        x.barrel(0, 0, 1, 0, 0);
        x.barrel(1, 1, 1, 0, 0);
        x.cellar(1, 1, 1);
        Bench.say(x, "0b");
        judged("b is full", 0, 3);
        x.cellar(1, 1, 2);
        judged("b has one place more", NONE, NONE);
        x.cellar(1, 1, 1 + 1);
        x.barrel(2, 1, 1, 0, 0);
        judged("b is full again", 0, 3);
        x.drink(1);
        judged("one was drunk", NONE, NONE);
    }

    private static void judgeFour() {
        begin();
        x.barrel(0, 0, 3, 0, 0);
        x.barrel(1, 0, 2, 0, 0);
        Bench.say(x, "0c1b.1c");
        // 9 and 4 on day 0, 4 on day 1
        for (int hands = 0; hands <= 14; hands++) {
            x.set(1, hands);
            judged(hands + " hands", hands < 9 ? 0 : hands < 13 ? 1 : NONE, hands < 13 ? 4 : NONE);
            due("the fewest hands, of " + hands, x.hands(), 13);
        }
        Bench.pad(x, "0c.1b.1c");
        x.set(1, 9);
        judged("9 hands, three days", NONE, NONE);
        x.set(1, 8);
        judged("8 hands, three days", 0, 4);
        Bench.pad(x, "1b.1a.1c.0b");
        x.set(1, 5);
        judged("1c is 6", 4, 4);
        x.set(1, 6);
        judged("0b is 6 too", NONE, NONE);
    }

    private static void handsOf() {
        begin();
        x.cellar(2, 0, 8);
        x.cellar(1, 1, 1);
        x.barrel(0, 0, 9, 0, 0);
        x.barrel(1, 0, 9, 0, 0);
        x.set(1, 0);
        Bench.say(x, "0c1c");
        due("162", x.hands(), 162);
        Bench.pad(x, "0c1c1c");
        due("it lies there", x.hands(), NONE);
        Bench.pad(x, "0c1c1a");
        due("back: three of 81", x.hands(), 243);
        Bench.pad(x, "2c");
        due("not there", x.hands(), NONE);
        x.barrel(2, 0, 1, 0, 0);
        due("there", x.hands(), 9);
        Bench.pad(x, "0b1b");
        due("no room", x.hands(), NONE);
        x.cellar(1, 1, 2);
        due("room", x.hands(), 36);
        Bench.pad(x, "...");
        due("no moves", x.hands(), 0);
        Bench.pad(x, "0c0a".repeat(15));
        due("thirty moves on one day", x.hands(), 30 * 81);
    }

    private static void sours() {
        begin();
        x.barrel(0, 0, 1, 0, 0);
        Bench.table(x, "5");
        x.barrel(0, 0, 1, 5, 0);
        due("as corked as it breathes", x.sours(0), NONE);
        x.barrel(0, 0, 1, 4, 0);
        due("by one less", x.sours(0), 20);
        x.cellar(0, 0, 1);
        due("as deep", x.sours(0), NONE);
        x.cellar(0, 0, 0);
        x.wall(0, true);
        due("a wall", x.sours(0), NONE);
        x.wall(0, false);
        due("no wall", x.sours(0), 20);
        Bench.table(x, "4");
        due("a level less", x.sours(0), NONE);
    }

    /** Not in 999 days: the last breath that counts is that of day 998. */
    private static void soursByOneDay() {
        // 27 digits: place 26 is breathed on days 26, 53, .. 998 (37 times)
        begin();
        Bench.table(x, "000000000000000000000000001");
        x.barrel(0, 0, 1, 0, 0);
        x.set(0, 37);
        due("just in 999", x.sours(0), 999);
        due("lost behind 998", x.lost(998), 0);
        due("lost behind 999", x.lost(999), 1);
        x.set(0, 38);
        due("one more", x.sours(0), NONE);
        due("nothing is lost behind 999", x.lost(999), 0);
        x.set(0, 37);
        x.set(2, 26);
        due("26 days earlier", x.sours(0), 973);
        x.set(0, 38);
        due("38 from day 0 on", x.sours(0), NONE);
        x.set(0, 37);
        Bench.table(x, "0000000000000000000000000001");
        x.set(2, 0);
        due("28 digits: 35 times", x.sours(0), NONE);
        x.set(0, 35);
        due("the 35th is on day 979", x.sours(0), 980);
    }

    private static void planByDays() {
        begin();
        Bench.table(x, "3");
        x.barrel(0, 0, 2, 0, 0);
        // 3, 2 and 1 a day; sour of 20
        int[][] due = {{6, 0, 0}, {7, 4, 1}, {9, 4, 1}, {10, 6, 2}, {19, 6, 2}, {20, NONE, NONE}, {999, NONE, NONE}};
        for (int[] one : due) {
            due("work behind " + one[0], x.plan(1, one[0], -1), one[1]);
            due("cellar behind " + one[0], x.plan(1, one[0], 0), one[2]);
        }
        x.set(0, 21);
        due("one more of sour", x.plan(1, 20, -1), 6);
        x.set(0, 20);
        x.cellar(2, 0, 3);
        due("one deeper", x.plan(1, 999, -1), 8);
        x.cellar(2, 0, 2);
        x.wall(0, true);
        due("a wall where it lies", x.plan(1, 999, -1), 0);
        x.wall(0, false);
        x.wall(1, true);
        due("a wall elsewhere", x.plan(1, 999, -1), 4);
        x.wall(1, false);
        x.barrel(0, 0, 2, 1, 0);
        due("a better cork", x.plan(1, 999, -1), 6);
        due("it goes to c", x.plan(1, 999, 0), 2);
    }

    private static void planByRoom() {
        begin();
        Bench.table(x, "2");
        x.barrel(0, 0, 1, 0, 0);
        x.barrel(1, 0, 1, 0, 0);
        x.barrel(2, 2, 1, 0, 0);
        x.cellar(2, 1, 2);
        due("both, one place", x.plan(3, 20, -1), NONE);
        due("both, one place: of 1", x.plan(3, 20, 1), NONE);
        due("one of them", x.plan(1, 20, -1), 3);
        due("the other", x.plan(2, 20, -1), 3);
        x.cellar(2, 1, 3);
        due("both, two places", x.plan(3, 20, -1), 6);
        x.cellar(2, 1, 2);
        due("a day less: in b", x.plan(3, 19, -1), 4);
        x.drink(2);
        due("both, the place is left", x.plan(3, 20, -1), 6);
    }

    private static void planOfMany() {
        begin();
        x.cellars(2);
        Bench.table(x, "1");
        for (int b = 0; b < 4; b++) x.barrel(b, 0, 1, 0, 0);
        x.cellar(1, 1, 4);
        due("all four", x.plan(15, 20, -1), 8);
        x.cellar(1, 1, 3);
        due("one too many", x.plan(15, 20, -1), NONE);
        due("three", x.plan(14, 20, -1), 6);
        x.barrel(0, 0, 1, 1, 0);
        due("one stays", x.plan(15, 20, -1), 6);
        due("stays", x.plan(15, 20, 0), 0);
    }

    private static void openFirst() {
        begin();
        Bench.table(x, "4");
        x.barrel(0, 0, 1, 0, 0);
        due("no sights", x.open(1), NONE);
        x.seen(0, 0, 0);
        due("behind 0 days: no day is ahead", x.open(1), NONE);
        due("so many", x.open(0), 0);
        x.seen(0, 1, 5);
        due("day 0", x.open(1), 0);
        due("one", x.open(0), 1);
        x.forget();
        x.seen(0, 1, 4);
        due("shut", x.open(1), NONE);
        x.forget();
        x.seen(0, 1, 6);
        due("two doors", x.open(1), NONE);
        x.forget();
        x.seen(0, 3, 13);
        due("one of three", x.open(0), 3);
        x.seen(0, 2, 8);
        due("the last of three", x.open(1), 2);
        x.seen(0, 3, 12);
        due("both can not be", x.open(1), NONE);
    }

    private static void quiet() {
        begin();
        Bench.table(x, "2121");
        due("of 1 deep", x.quiet(1), 1);
        due("of 2 deep", x.quiet(2), NONE);
        due("of 0 deep", x.quiet(0), 0);
        x.cellar(2, 0, 1);
        due("one less deep", x.quiet(2), 1);
        x.wall(2, true);
        due("a wall", x.quiet(2), NONE);
        x.wall(2, false);
        due("no wall", x.quiet(2), 1);
        Bench.table(x, "000000000000000000000000000000");
        due("thirty quiet days", x.quiet(0), NONE);
        Bench.table(x, "000000000000000000000000000100");
        due("29 quiet days", x.quiet(0), 29);
        Bench.table(x, "999999999999999999999999999999");
        due("no quiet day", x.quiet(0), 0);
    }
}
