/** Each promise of the document by hand: ordinary inputs, the edges that it names, wrong inputs. */
public final class PromisesTest {
    private static int right = 0, wrong = 0;
    private static int promise = 0;
    private static CellarTides x;

    private static void due(String call, long got, long want) {
        if (got == want) { right++; return; }
        wrong++;
        System.out.println("promise " + promise + ": " + call + " answered " + got + ", due is " + want);
    }

    private static void begin(int number) {
        promise = number;
        x = new CellarTides();
    }

    private static void text(String signs) {
        x.wipe();
        for (int i = 0; i < signs.length(); i++) due("say", x.say(signs.charAt(i)), i + 1);
    }

    private static void table(String digits) {
        text(digits);
        due("table " + digits, x.table(), digits.length());
    }

    public static void main(String[] args) {
        newObject(); cellars(); cellar(); wall(); barrel(); drink(); set();
        say(); wipe(); fault(); table();
        level(); breath(); judge(); behind(); hands(); acid(); sours(); lost();
        plan(); value(); opening(); banquet(); poured();
        likely(); mean(); seen(); forget(); walls(); moons(); open(); shifts();
        drought(); quiet(); period(); year(); image(); restore(); told();
        System.out.println("promises: " + right + " answers right, " + wrong + " wrong");
        if (wrong != 0) System.exit(1);
    }

    private static void newObject() {
        begin(1);
        int[] first = {0, 3, 0, 20, 20, 0, 2, 0};
        for (int i = 0; i < first.length; i++) due("told " + i, x.told(i), first[i]);
        for (int k = 0; k < 3; k++) {
            due("depth", x.told(10 + k), k);
            due("room", x.told(20 + k), 8);
            due("wall", x.told(30 + k), 0);
        }
        for (int k = 0; k < 4; k++) due("peak", x.told(40 + k), 20);
        due("level 0", x.level(0), 0);
        due("level 1", x.level(1), 5);
        due("no image 0", x.restore(0), -3);
        due("no image 1", x.restore(1), -3);
    }

    private static void cellars() {
        begin(2);
        x.cellar(0, 0, 7);
        x.cellar(1, 1, 4);
        x.wall(2, true);
        x.barrel(3, 1, 2, 2, 2);
        x.seen(3, 1, 1);
        x.set(0, 33);
        x.set(1, 34);
        x.set(2, 5);
        x.set(4, 6);
        table("123");
        text("ab");
        due("of 0", x.cellars(0), -2);
        due("of 7", x.cellars(7), -2);
        due("of least", x.cellars(Integer.MIN_VALUE), -2);
        due("refused: a barrel stays", x.told(2), 8);
        due("of 6", x.cellars(6), 3);
        for (int k = 0; k < 6; k++) {
            due("depth", x.told(10 + k), k);
            due("room", x.told(20 + k), 8);
            due("wall", x.told(30 + k), 0);
        }
        due("barrels go", x.told(2), 0);
        due("sights go", x.told(7), 0);
        due("sour stays", x.told(3), 33);
        due("hands stay", x.told(4), 34);
        due("phase stays", x.told(5), 5);
        due("peak stays", x.told(41), 6);
        due("table stays", x.told(6), 3);
        due("pad stays", x.told(0), 2);
        due("of 1", x.cellars(1), 6);
        due("one left", x.told(11), -2);
        due("of 1 again", x.cellars(1), 1);
    }

    private static void cellar() {
        begin(3);
        due("depth", x.cellar(2, 0, 8), 2);
        due("depth back", x.cellar(2, 0, 0), 8);
        due("room", x.cellar(1, 1, 1), 8);
        due("room back", x.cellar(1, 1, 8), 1);
        due("no such cellar", x.cellar(3, 0, 1), -1);
        due("no such cellar", x.cellar(-1, 9, 99), -1);
        due("what", x.cellar(0, 2, 1), -2);
        due("what", x.cellar(0, -1, 1), -2);
        due("depth -1", x.cellar(0, 0, -1), -2);
        due("depth 9", x.cellar(0, 0, 9), -2);
        due("room 0", x.cellar(0, 1, 0), -2);
        due("room 9", x.cellar(0, 1, 9), -2);
        x.barrel(0, 0, 1, 1, 1);
        x.barrel(1, 0, 1, 1, 1);
        due("too little room", x.cellar(0, 1, 1), -3);
        due("outside comes first", x.cellar(0, 1, 0), -2);
        due("room of two", x.cellar(0, 1, 2), 8);
        due("kept", x.told(20), 2);
        due("depth of a full cellar", x.cellar(0, 0, 1), 0);
    }

    private static void wall() {
        begin(4);
        due("wall", x.wall(0, true), 1);
        due("is", x.told(30), 1);
        due("no breath", x.breath(0, 1), 0);
        due("others breathe", x.breath(1, 1), 4);
        due("again", x.wall(0, true), 1);
        due("none", x.wall(0, false), 1);
        due("is not", x.told(30), 0);
        due("breath", x.breath(0, 1), 5);
        due("no such cellar", x.wall(3, true), -1);
        due("no such cellar", x.wall(-1, false), -1);
    }

    private static void barrel() {
        begin(5);
        due("first", x.barrel(7, 2, 9, 9, 3), 1);
        due("second", x.barrel(0, 0, 1, 0, 0), 2);
        due("otherwise", x.barrel(7, 1, 2, 3, 1), 2);
        due("its cellar", x.told(800), 1);
        due("its size", x.told(801), 2);
        due("its cork", x.told(802), 3);
        due("its kind", x.told(803), 1);
        due("no such barrel", x.barrel(8, 0, 1, 1, 1), -1);
        due("no such barrel", x.barrel(-1, 0, 0, 1, 1), -1);
        due("no such cellar", x.barrel(1, 3, 0, 1, 1), -1);
        due("no such cellar", x.barrel(1, -1, 1, 1, 1), -1);
        due("size 0", x.barrel(1, 0, 0, 1, 1), -2);
        due("size 10", x.barrel(1, 0, 10, 1, 1), -2);
        due("cork -1", x.barrel(1, 0, 1, -1, 1), -2);
        due("cork 10", x.barrel(1, 0, 1, 10, 1), -2);
        due("kind -1", x.barrel(1, 0, 1, 1, -1), -2);
        due("kind 4", x.barrel(1, 0, 1, 1, 4), -2);
        x.cellar(0, 1, 1);
        due("no room", x.barrel(1, 0, 1, 1, 1), -4);
        due("outside comes first", x.barrel(1, 0, 0, 1, 1), -2);
        due("no room for one from elsewhere", x.barrel(7, 0, 1, 1, 1), -4);
        due("it stays", x.told(800), 1);
        due("room for itself", x.barrel(0, 0, 5, 5, 2), 2);
        due("refused ones are not there", x.told(2), 129);
    }

    private static void drink() {
        begin(6);
        x.barrel(2, 0, 1, 0, 0);
        x.barrel(5, 0, 1, 0, 0);
        due("goes", x.drink(2), 1);
        due("gone", x.drink(2), -1);
        due("bits", x.told(2), 32);
        due("never there", x.drink(0), -1);
        due("no such", x.drink(8), -1);
        due("no such", x.drink(-1), -1);
        due("last", x.drink(5), 0);
    }

    private static void set() {
        begin(7);
        int[] least = {1, 0, 0, 0, 0, 0, 0}, most = {99, 99, 29, 99, 99, 99, 99}, was = {20, 20, 0, 20, 20, 20, 20};
        int[] told = {3, 4, 5, 40, 41, 42, 43};
        for (int i = 0; i < 7; i++) {
            due("below " + i, x.set(i, least[i] - 1), -2);
            due("above " + i, x.set(i, most[i] + 1), -2);
            due("to least " + i, x.set(i, least[i]), was[i]);
            due("to most " + i, x.set(i, most[i]), least[i]);
            due("told " + i, x.told(told[i]), most[i]);
        }
        due("which 7", x.set(7, 1), -2);
        due("which -1", x.set(-1, 1), -2);
        x.barrel(0, 0, 1, 0, 0);
        x.set(2, 0);
        due("sour of 99", x.lost(40), 1);
        due("sour of 99, but one day", x.lost(38), 0);
    }

    private static void say() {
        begin(8);
        due("32", x.say(32), -2);
        due("127", x.say(127), -2);
        due("-1", x.say(-1), -2);
        due("33", x.say(33), 1);
        due("126", x.say(126), 2);
        for (int i = 3; i <= 60; i++) due("sign", x.say('.'), i);
        due("full", x.say('.'), -4);
        due("outside comes first", x.say(32), -2);
        due("signs", x.told(0), 60);
    }

    private static void wipe() {
        begin(9);
        due("none", x.wipe(), 0);
        text("0a.");
        due("three", x.wipe(), 3);
        due("none left", x.wipe(), 0);
        due("told", x.told(0), 0);
    }

    private static void fault() {
        begin(10);
        due("empty as table", x.fault(0), 0);
        due("empty as moves", x.fault(1), -6);
        due("how 2", x.fault(2), -2);
        due("how -1", x.fault(-1), -2);
        text("0123456789");
        due("digits", x.fault(0), -6);
        due("digit behind digit", x.fault(1), 1);
        text("01x2y");
        due("first of two", x.fault(0), 2);
        text("012345678901234567890123456789");
        due("thirty", x.fault(0), -6);
        x.say('0');
        due("thirty-one", x.fault(0), 30);
        x.say('x');
        due("more behind", x.fault(0), 30);
        text("7c.0a..");
        due("moves", x.fault(1), -6);
        due("moves as table", x.fault(0), 1);
        text("8a");
        due("no such barrel's digit", x.fault(1), 0);
        text(".1d");
        due("a letter of no cellar", x.fault(1), 2);
        text(".1");
        due("a letter must come", x.fault(1), 2);
        text("1.");
        due("a day can not stand there", x.fault(1), 1);
        text("a");
        due("a letter first", x.fault(1), 0);
        x.cellars(6);
        text("1f");
        due("letter f", x.fault(1), -6);
        text("1g");
        due("letter g", x.fault(1), 1);
        x.cellars(1);
        text("1b");
        due("letter b of one cellar", x.fault(1), 1);
    }

    private static void table() {
        begin(11);
        due("empty", x.table(), -5);
        text("12a");
        due("fault", x.table(), -5);
        due("pad stays", x.told(0), 3);
        due("table stays", x.told(6), 2);
        text("907");
        due("three digits", x.table(), 3);
        due("pad is empty", x.told(0), 0);
        due("level 0", x.level(0), 9);
        due("level 1", x.level(1), 0);
        due("level 2", x.level(2), 7);
        text("123456789012345678901234567890");
        due("thirty digits", x.table(), 30);
        text("1234567890123456789012345678901");
        due("thirty-one", x.table(), -5);
        due("still thirty", x.told(6), 30);
        text("4");
        due("one digit", x.table(), 1);
        due("level 999", x.level(999), 4);
    }

    private static void level() {
        begin(12);
        table("0123456");
        due("0", x.level(0), 0);
        due("6", x.level(6), 6);
        due("7", x.level(7), 0);
        due("999", x.level(999), 999 % 7);
        due("1000", x.level(1000), -2);
        due("-1", x.level(-1), -2);
        x.set(2, 29);
        due("by the phase", x.level(0), 1);
        due("by the phase, 999", x.level(999), (999 + 29) % 7);
    }

    private static void breath() {
        begin(13);
        table("925");
        due("of 0", x.breath(0, 0), 9);
        due("of 2", x.breath(2, 0), 7);
        due("as deep", x.breath(2, 1), 0);
        x.cellar(2, 0, 8);
        due("deeper", x.breath(2, 2), 0);
        due("8 deep", x.breath(2, 0), 1);
        x.set(2, 1);
        due("phase", x.breath(0, 0), 2);
        x.wall(0, true);
        due("wall", x.breath(0, 0), 0);
        due("999", x.breath(1, 999), 1);
        due("1000", x.breath(1, 1000), -2);
        due("-1", x.breath(1, -1), -2);
        due("no such cellar", x.breath(3, 1000), -1);
        due("no such cellar", x.breath(-1, 0), -1);
    }

    private static void judge() {
        begin(14);
        due("empty: part", x.judge(0), -6);
        due("empty: why", x.judge(1), -6);
        due("empty: work", x.judge(2), 0);
        due("empty: days", x.judge(3), 0);
        due("what 4", x.judge(4), -2);
        due("what -1", x.judge(-1), -2);
        text("0");
        due("fault", x.judge(0), -5);
        due("fault, of 3", x.judge(3), -5);
        due("outside comes first", x.judge(4), -2);
        x.barrel(0, 0, 5, 0, 0);
        x.barrel(1, 1, 2, 0, 0);
        text("0b.1c0c.");
        due("part", x.judge(0), -6);
        due("why", x.judge(1), -6);
        due("work", x.judge(2), 10 + 4 + 10);
        due("days", x.judge(3), 2);
        text("..0c1c");
        due("19 of 20 hands", x.judge(2), 15 + 4);
        x.set(1, 18);
        due("of 18 hands: part", x.judge(0), 3);
        due("of 18 hands: why", x.judge(1), 4);
        due("of 18 hands: work", x.judge(2), -3);
        due("of 18 hands: days", x.judge(3), -3);
        text("..0c.1c");
        due("a new day has new hands", x.judge(2), 19);
        x.set(1, 19);
        text("0c1c");
        due("just enough", x.judge(0), -6);
        text("2a");
        due("1: not there", x.judge(1), 1);
        text("0b0b");
        due("2: it lies there", x.judge(1), 2);
        due("2: part", x.judge(0), 1);
        x.cellar(1, 1, 1);
        text("1a0b");
        due("room is free by then", x.judge(1), -6);
        text("0b1a");
        due("3: no room", x.judge(1), 3);
        text("1b");
        due("2 comes ahead of 3 and 4", x.judge(1), 2);
        x.set(1, 0);
        text("0b");
        due("3 comes ahead of 4", x.judge(1), 3);
        text("0c");
        due("4: no hands", x.judge(1), 4);
        due("the first stays first", x.judge(0), 0);
        x.set(1, 99);
        x.cellar(0, 0, 8);
        text("0c");
        due("work up the depths", x.judge(2), 5 * 7);
    }

    private static void behind() {
        begin(15);
        table("5");
        x.barrel(0, 0, 1, 1, 0);
        x.barrel(1, 2, 1, 0, 0);
        text("..0b...");
        due("where", x.behind(0, 0), 1);
        due("acid", x.behind(0, 1), 4 + 4 + 3 + 3 + 3);
        due("the other stays", x.behind(1, 0), 2);
        due("its acid", x.behind(1, 1), 15);
        due("nothing was moved", x.told(100), 0);
        due("not there", x.behind(2, 0), -1);
        due("no such", x.behind(8, 5), -1);
        due("what 2", x.behind(0, 2), -2);
        due("what -1", x.behind(0, -1), -2);
        text("0");
        due("fault", x.behind(0, 0), -5);
        due("outside comes first", x.behind(0, 2), -2);
        text("0a");
        due("can not be", x.behind(1, 0), -3);
        text("............................................................");
        due("sixty days", x.behind(0, 1), 99);
        table("05");
        x.set(2, 1);
        x.wall(2, true);
        text(".0c..");
        due("phase and wall", x.behind(0, 1), 4);
    }

    private static void hands() {
        begin(16);
        due("none", x.hands(), 0);
        x.barrel(0, 0, 9, 0, 0);
        x.barrel(1, 0, 9, 0, 0);
        x.cellar(2, 0, 8);
        text("0c1c.0b");
        due("above 99", x.hands(), 162);
        text("0c.1c");
        due("by days", x.hands(), 81);
        x.set(1, 0);
        due("hands do not count", x.hands(), 81);
        text("0c0c");
        due("another reason: 2", x.hands(), -6);
        text("0c.5a");
        due("another reason: 1", x.hands(), -6);
        x.cellar(1, 1, 1);
        text("0b1b");
        due("another reason: 3", x.hands(), -6);
        text("0c1");
        due("fault", x.hands(), -5);
    }

    private static void acid() {
        begin(17);
        table("0294");
        x.barrel(0, 1, 3, 2, 0);
        due("0", x.acid(0, 0), 0);
        due("2", x.acid(0, 2), 0);
        due("3", x.acid(0, 3), 6);
        due("4", x.acid(0, 4), 7);
        due("8", x.acid(0, 8), 14);
        due("56", x.acid(0, 56), 98);
        due("59", x.acid(0, 59), 99);
        due("999", x.acid(0, 999), 99);
        due("1000", x.acid(0, 1000), -2);
        due("-1", x.acid(0, -1), -2);
        due("not there", x.acid(1, 1000), -1);
        x.set(2, 2);
        due("phase", x.acid(0, 1), 6);
        x.wall(1, true);
        due("wall", x.acid(0, 999), 0);
    }

    private static void sours() {
        begin(18);
        table("1");
        x.barrel(0, 0, 1, 0, 0);
        due("twenty", x.sours(0), 20);
        x.set(0, 1);
        due("one", x.sours(0), 1);
        x.set(0, 99);
        due("99", x.sours(0), 99);
        table("0000000001");
        due("990 days", x.sours(0), 990);
        x.set(2, 1);
        due("989 days", x.sours(0), 989);
        table("00000000001");
        due("not in 999", x.sours(0), -6);
        x.set(0, 1);
        table("00000000010000000000000000000");
        x.set(2, 10);
        due("phase", x.sours(0), 29);
        x.barrel(0, 0, 1, 1, 0);
        due("never", x.sours(0), -6);
        due("not there", x.sours(1), -1);
        x.set(2, 0);
        x.set(0, 27);
        table("000000000000000000000000000000");
        due("all still", x.sours(0), -6);
        x.barrel(0, 0, 1, 0, 0);
        table("100000000000000000000000000000");
        x.set(0, 34);
        due("991 days", x.sours(0), 991);
        x.set(2, 22);
        due("999 days", x.sours(0), 999);
        x.set(2, 21);
        due("1000 days", x.sours(0), -6);
    }

    private static void lost() {
        begin(19);
        due("no barrels", x.lost(999), 0);
        table("2");
        x.barrel(0, 0, 4, 0, 0);
        x.barrel(5, 1, 7, 0, 0);
        due("9", x.lost(9), 0);
        due("10", x.lost(10), 4);
        due("19", x.lost(19), 4);
        due("20", x.lost(20), 11);
        due("0", x.lost(0), 0);
        due("1000", x.lost(1000), -2);
        due("-1", x.lost(-1), -2);
        x.drink(0);
        due("drunk is not lost", x.lost(999), 7);
    }

    private static void plan() {
        begin(20);
        due("an empty set", x.plan(0, 0, -1), 0);
        due("not of it", x.plan(0, 0, 0), -1);
        due("not there", x.plan(1, 0, -1), -2);
        due("negative", x.plan(-1, 0, -1), -2);
        due("bit 8", x.plan(256, 0, -1), -2);
        due("d 1000", x.plan(0, 1000, -1), -2);
        due("d -1", x.plan(0, -1, -1), -2);
        due("outside comes first", x.plan(0, 1000, 3), -2);
        table("2");
        for (int b = 0; b < 5; b++) x.barrel(b, 0, b + 1, 0, 0);
        due("more than 4", x.plan(31, 0, -1), -4);
        due("unknown comes ahead of full", x.plan(31, 0, 5), -1);
        due("unknown -2", x.plan(1, 0, -2), -1);
        due("all may stay", x.plan(15, 9, -1), 0);
        due("stays", x.plan(15, 9, 3), 0);
        due("up to b", x.plan(15, 19, -1), 2 * (1 + 2 + 3 + 4));
        due("to b", x.plan(15, 19, 3), 1);
        due("up to c", x.plan(6, 20, -1), 3 * (2 + 3));
        due("to c", x.plan(6, 20, 2), 2);
        x.cellar(1, 1, 2);
        due("two to b, the least to c", x.plan(7, 19, -1), 3 * 1 + 2 * 2 + 2 * 3);
        due("0 to c", x.plan(7, 19, 0), 2);
        due("1 to b", x.plan(7, 19, 1), 1);
        x.barrel(5, 1, 1, 0, 0);
        x.cellar(2, 1, 1);
        due("others keep room", x.plan(7, 19, -1), -6);
        due("none, of a barrel", x.plan(7, 19, 0), -6);
        x.set(1, 0);
        due("hands do not count", x.plan(2, 19, -1), 4);
        due("nothing was moved", x.told(200), 0);

        x.cellars(3);
        x.cellar(2, 0, 1);
        x.barrel(0, 0, 1, 0, 0);
        due("of several the first", x.plan(1, 12, 0), 1);
        x.cellars(2);
        table("9");
        x.cellar(0, 1, 1);
        x.cellar(1, 1, 1);
        x.cellar(1, 0, 8);
        x.barrel(0, 0, 2, 0, 0);
        x.barrel(1, 1, 3, 9, 0);
        due("at once: two change places", x.plan(3, 10, -1), 9 * 5);
        due("one alone can not", x.plan(1, 10, -1), -6);
    }

    private static void value() {
        begin(21);
        table("1");
        x.barrel(0, 0, 3, 0, 2);
        due("at the peak, vinegar", x.value(0, 20), 0);
        due("a day ahead", x.value(0, 19), 3 * (50 - 1 - 19));
        due("first day", x.value(0, 0), 3 * 30);
        x.set(5, 90);
        due("far from the peak", x.value(0, 5), 0);
        x.set(0, 99);
        due("near", x.value(0, 90), 0);
        x.set(5, 10);
        due("behind the peak", x.value(0, 15), 3 * (50 - 5 - 15));
        x.set(3, 15);
        due("another kind's peak", x.value(0, 15), 3 * (50 - 5 - 15));
        due("99", x.value(0, 99), 0);
        due("100", x.value(0, 100), -2);
        due("-1", x.value(0, -1), -2);
        due("not there", x.value(1, 100), -1);
    }

    private static void opening() {
        begin(22);
        table("0");
        x.barrel(0, 0, 9, 0, 1);
        due("the peak", x.opening(0, 0), 20);
        due("its value", x.opening(0, 1), 450);
        x.set(4, 99);
        due("the last day", x.opening(0, 0), 99);
        table("1");
        due("vinegar ahead of it: the first of none", x.opening(0, 0), 0);
        due("none", x.opening(0, 1), 0);
        x.set(4, 30);
        due("each day is as good", x.opening(0, 0), 0);
        due("as good", x.opening(0, 1), 9 * 20);
        due("what 2", x.opening(0, 2), -2);
        due("what -1", x.opening(0, -1), -2);
        due("not there", x.opening(1, 2), -1);
        due("no such", x.opening(-1, 0), -1);
    }

    private static void banquet() {
        begin(23);
        due("no barrels: the first day", x.banquet(0), 0);
        due("no barrels: none", x.banquet(1), 0);
        due("what 2", x.banquet(2), -2);
        due("what -1", x.banquet(-1), -2);
        table("0");
        x.set(3, 10);
        x.set(4, 40);
        x.barrel(0, 0, 1, 0, 0);
        x.barrel(1, 0, 1, 0, 1);
        due("between: the first", x.banquet(0), 10);
        due("together", x.banquet(1), 50 + 20);
        x.barrel(1, 0, 2, 0, 1);
        due("the greater wins", x.banquet(0), 40);
        due("together", x.banquet(1), 20 + 100);
    }

    private static void poured() {
        begin(24);
        due("none", x.poured(0, -1), 0);
        due("not there", x.poured(0, 0), -1);
        due("no such", x.poured(1000, -2), -1);
        due("d 1000", x.poured(1000, -1), -2);
        due("d -1", x.poured(-1, -1), -2);
        table("3");
        x.barrel(0, 0, 2, 0, 0);
        x.barrel(1, 2, 2, 0, 0);
        x.barrel(3, 2, 1, 0, 1);
        due("outside", x.poured(1000, 0), -2);
        due("all good: none is poured", x.poured(6, -1), 5);
        due("itself", x.poured(6, 0), 0);
        due("itself", x.poured(6, 3), 3);
        // behind 9 days: 27, 9, 9
        due("0 and 1: 18", x.poured(9, -1), 5);
        due("with 1", x.poured(9, 0), 1);
        due("with 0", x.poured(9, 1), 0);
        due("alone", x.poured(9, 3), 3);
        x.barrel(1, 2, 2, 0, 2);
        due("other kinds: 1 less", x.poured(9, -1), 4);
        due("still", x.poured(9, 0), 1);
        // behind 10 days: 30, 10, 10: 0 and 1 make just 20, 0 and 3 make 23
        due("just sour", x.poured(10, -1), 3);
        due("itself", x.poured(10, 0), 0);
        x.set(0, 21);
        due("just not", x.poured(10, -1), 4);
        x.set(0, 7);
        // behind 4 days: 12, 4 (size 3): 24 and 12 by 5 is 7, cut
        x.barrel(1, 2, 3, 0, 0);
        due("cut to 7: sour", x.poured(4, -1), 4);
        x.set(0, 8);
        due("cut to 7: not sour", x.poured(4, -1), 6);
        x.drink(3);
        x.barrel(4, 2, 3, 0, 0);
        x.set(0, 8);
        due("of two partners the first", x.poured(4, 0), 1);
        due("the other is alone", x.poured(4, 4), 4);
    }

    private static void likely() {
        begin(25);
        long gone = -1000000000000000000L;
        x.barrel(0, 0, 4, 1, 0);
        due("not there", x.likely(1, 11, 0, 0), gone - 1);
        due("d 11", x.likely(0, 11, 5, 0), gone - 2);
        due("d -1", x.likely(0, -1, 5, 0), gone - 2);
        due("c 11", x.likely(0, 1, 11, 0), gone - 2);
        due("c -1", x.likely(0, 1, -1, 0), gone - 2);
        due("part 2", x.likely(0, 1, 1, 2), gone - 2);
        due("part -1", x.likely(0, 1, 1, -1), gone - 2);
        due("never", x.likely(0, 0, 5, 0), 0);
        due("never, of 1", x.likely(0, 10, 0, 1), 1);
        table("9");
        x.barrel(0, 0, 1, 9, 0);
        x.set(0, 1);
        due("level 10", x.likely(0, 1, 3, 0), 3);
        due("of ten", x.likely(0, 1, 3, 1), 10);
        x.set(0, 10);
        due("all ten days", x.likely(0, 10, 3, 0), 59049);
        due("of 10^10", x.likely(0, 10, 3, 1), 10000000000L);
        due("sure", x.likely(0, 10, 10, 0), 1);
        due("sure, of 1", x.likely(0, 10, 10, 1), 1);
        x.set(0, 2);
        due("two of three", x.likely(0, 3, 5, 0), 1);
        due("two of three, of", x.likely(0, 3, 5, 1), 2);
        due("two of three by 2 tenths", x.likely(0, 3, 2, 0), 13);
        due("two of three by 2 tenths, of", x.likely(0, 3, 2, 1), 125);
        x.barrel(0, 0, 1, 0, 0);
        x.set(0, 99);
        due("up to 99: nine doors of ten days", x.likely(0, 10, 5, 0), 11);
        due("up to 99: nine doors of ten days, of", x.likely(0, 10, 5, 1), 1024);
        due("up to 99: all open", x.likely(0, 10, 10, 0), 1);
        x.wall(0, true);
        due("a wall", x.likely(0, 10, 10, 0), 0);
    }

    private static void mean() {
        begin(26);
        long gone = -1000000000000000000L;
        due("d 11", x.mean(11, 5, 0), gone - 2);
        due("d -1", x.mean(-1, 5, 0), gone - 2);
        due("c 11", x.mean(1, 11, 0), gone - 2);
        due("c -1", x.mean(1, -1, 0), gone - 2);
        due("part 2", x.mean(1, 1, 2), gone - 2);
        due("part -1", x.mean(1, 1, -1), gone - 2);
        due("no barrels", x.mean(10, 5, 0), 0);
        due("no barrels, of 1", x.mean(10, 5, 1), 1);
        table("3");
        x.set(0, 1);
        x.barrel(0, 0, 5, 3, 0);
        x.barrel(1, 0, 7, 9, 0);
        x.barrel(2, 0, 2, 0, 0);
        due("one day", x.mean(1, 5, 0), 9);
        due("one day, of", x.mean(1, 5, 1), 2);
        due("two days", x.mean(2, 5, 0), 23);
        due("two days, of", x.mean(2, 5, 1), 4);
        due("0 days", x.mean(0, 10, 0), 0);
    }

    private static void seen() {
        begin(27);
        x.barrel(3, 0, 1, 0, 0);
        due("not there", x.seen(0, 31, 0), -1);
        due("d 31", x.seen(3, 31, 0), -2);
        due("d -1", x.seen(3, -1, 0), -2);
        due("v 100", x.seen(3, 0, 100), -2);
        due("v -1", x.seen(3, 0, -1), -2);
        for (int i = 1; i <= 6; i++) due("sight", x.seen(3, 30, 99), i);
        due("full", x.seen(3, 0, 0), -4);
        due("outside comes first", x.seen(3, 31, 0), -2);
        due("told", x.told(7), 6);
    }

    private static void forget() {
        begin(28);
        due("none", x.forget(), 0);
        x.barrel(3, 0, 1, 0, 0);
        x.seen(3, 2, 50);
        x.seen(3, 2, 51);
        due("none holds", x.walls(), 0);
        due("two", x.forget(), 2);
        due("all hold", x.walls(), 71);
        due("told", x.told(7), 0);
    }

    private static void walls() {
        begin(29);
        due("no sights", x.walls(), 71);
        x.cellars(6);
        due("six cellars", x.walls(), 127);
        table("7");
        x.barrel(0, 1, 1, 0, 0);
        x.barrel(1, 4, 1, 0, 0);
        x.wall(1, true);
        x.wall(3, true);
        x.seen(0, 2, 12);
        due("not 1, whichever stand now", x.walls(), 64 + 63 - 2);
        x.seen(1, 3, 0);
        due("4", x.walls(), 16);
        x.seen(0, 0, 0);
        due("behind 0 days", x.walls(), 16);
        x.seen(1, 3, 9);
        due("both can not be", x.walls(), 0);
        due("the walls stay", x.told(31), 1);
        x.forget();
        x.seen(1, 30, 90);
        due("behind 30 days", x.walls(), 127 - 16);
        x.drink(1);
        due("a sight of a barrel that went", x.walls(), 0);
    }

    private static void moons() {
        begin(30);
        due("no sights", x.moons(), 3);
        table("036963");
        x.barrel(0, 0, 1, 0, 0);
        x.set(2, 20);
        x.seen(0, 1, 6);
        due("6 stands twice", x.moons(), 4 + 16);
        x.seen(0, 2, 9);
        due("then 3", x.moons(), 16);
        due("the phase stays", x.told(5), 20);
        x.wall(0, true);
        due("walls count", x.moons(), 0);
        x.forget();
        table("123456789012345678901234567890");
        due("thirty", x.moons(), (1 << 30) - 1);
    }

    private static void open() {
        begin(31);
        due("no sights", x.open(0), 0);
        due("no first", x.open(1), -6);
        due("what 2", x.open(2), -2);
        due("what -1", x.open(-1), -2);
        table("4");
        x.barrel(0, 0, 1, 0, 0);
        x.seen(0, 5, 21);
        due("any of five", x.open(0), 5);
        due("the first", x.open(1), 0);
        x.seen(0, 2, 8);
        due("not of the first two", x.open(0), 3);
        due("day 2", x.open(1), 2);
        x.seen(0, 7, 29);
        due("nor later", x.open(0), 3);
        x.seen(0, 4, 16);
        due("day 4 alone", x.open(1), 4);
        x.seen(0, 4, 17);
        due("none", x.open(0), 0);
        due("none: no first", x.open(1), -6);
        x.forget();
        x.seen(0, 3, 12);
        x.seen(0, 1, 4);
        due("all shut", x.open(0), 0);
        x.barrel(0, 0, 1, 9, 0);
        x.forget();
        x.seen(0, 6, 0);
        due("a door is not felt", x.open(0), 6);
        x.seen(0, 0, 0);
        due("the latest by days", x.open(0), 6);
    }

    private static void shifts() {
        begin(32);
        due("t 10", x.shifts(10, 1, 0), -2);
        due("t -1", x.shifts(-1, 1, 0), -2);
        due("r 0", x.shifts(0, 0, 0), -2);
        due("r 31", x.shifts(0, 31, 0), -2);
        due("what 2", x.shifts(0, 1, 2), -2);
        due("what -1", x.shifts(0, 1, -1), -2);
        table("9000000009");
        due("over the end", x.shifts(9, 2, 0), 1);
        due("begins on the last", x.shifts(9, 2, 1), 512);
        due("two by one", x.shifts(9, 1, 1), 513);
        due("one wakes all days", x.shifts(9, 30, 0), 1);
        due("least as bits", x.shifts(9, 30, 1), 1);
        table("123");
        due("none wanted", x.shifts(4, 1, 0), 0);
        due("none wanted, bits", x.shifts(4, 1, 1), 0);
        x.set(2, 1);
        due("days of the table: the phase does not count", x.shifts(3, 1, 1), 4);
        table("123456789012");
        due("twelve digits", x.shifts(0, 5, 0), 3);
        due("least as bits", x.shifts(0, 5, 1), 1 + 4 + 128);
        table("1234567890123");
        due("thirteen", x.shifts(0, 5, 0), -4);
        due("outside comes first", x.shifts(0, 31, 0), -2);
    }

    private static void drought() {
        begin(33);
        due("no barrels", x.drought(999), 0);
        due("d 1000", x.drought(1000), -2);
        due("d -1", x.drought(-1), -2);
        table("9");
        x.barrel(0, 0, 1, 0, 0);
        due("behind 2", x.drought(2), 0);
        due("behind 3", x.drought(3), 3);
        due("behind 999", x.drought(999), 9);
        x.barrel(0, 1, 1, 2, 0);
        due("depth and cork", x.drought(999), 6);
        table("19");
        x.barrel(0, 0, 1, 0, 0);
        due("0 at least", x.drought(38), 8);
        due("by 19 of 1", x.drought(6), 3);
        due("the levels stay", x.level(1), 9);
    }

    private static void quiet() {
        begin(34);
        due("one", x.quiet(0), 1);
        due("no such", x.quiet(3), -1);
        due("no such", x.quiet(-1), -1);
        table("0010020");
        due("over the end", x.quiet(0), 3);
        due("of 1 deep", x.quiet(1), 6);
        due("of 2 deep: all", x.quiet(2), -6);
        x.set(2, 3);
        due("the phase does not count", x.quiet(0), 3);
        x.wall(0, true);
        due("a wall: all", x.quiet(0), -6);
        table("9");
        due("never", x.quiet(1), 0);
    }

    private static void period() {
        begin(35);
        due("05", x.period(), 2);
        table("7");
        due("one", x.period(), 1);
        table("777");
        due("all the same", x.period(), 1);
        table("121212");
        due("two", x.period(), 2);
        table("12121");
        due("a whole number of times", x.period(), 5);
        table("123123123123123123123123123123");
        due("three of thirty", x.period(), 3);
        table("1213");
        due("four", x.period(), 4);
    }

    private static void year() {
        begin(36);
        due("seed -1", x.year(-1, 1, 1, 0), -2);
        due("seed 10000", x.year(10000, 1, 1, 0), -2);
        due("m 0", x.year(0, 0, 1, 0), -2);
        due("m 1000", x.year(0, 1000, 1, 0), -2);
        due("c 0", x.year(0, 1, 0, 0), -2);
        due("c 100", x.year(0, 1, 100, 0), -2);
        due("what 2", x.year(0, 1, 1, 2), -2);
        due("what -1", x.year(0, 1, 1, -1), -2);
        // from 0: 74, 5624, 28652 (421874 less 6 times 65537), 51790 (2148974 less 32 times)
        due("even ones", x.year(0, 4, 2, 1), 4);
        due("by 37: 74, 5624", x.year(0, 4, 37, 1), 2);
        due("by 37, one day", x.year(0, 1, 37, 1), 1);
        due("by 19: 5624, 28652", x.year(0, 4, 19, 1), 2);
        due("seed 9999", x.year(9999, 999, 1, 1), 999);
        table("9");
        x.set(0, 2);
        x.barrel(0, 0, 6, 9, 0);
        due("two days open", x.year(0, 4, 37, 0), 6);
        x.set(0, 3);
        due("not three", x.year(0, 4, 37, 0), 0);
        due("c 99", x.year(0, 1, 99, 1), 0);
    }

    private static void image() {
        begin(37);
        due("2", x.image(2), -2);
        due("-1", x.image(-1), -2);
        x.cellars(4);
        x.cellar(3, 0, 8);
        x.cellar(3, 1, 5);
        x.wall(2, true);
        x.barrel(6, 3, 4, 5, 2);
        x.seen(6, 7, 8);
        for (int i = 0; i < 7; i++) x.set(i, 11 + i);
        table("4711");
        due("kept", x.image(1), 1);
        x.cellars(1);
        for (int i = 0; i < 7; i++) x.set(i, 1);
        table("0");
        text("abc");
        due("back", x.restore(1), 1);
        due("the pad is not kept", x.told(0), 3);
        int[] ask = {1, 2, 3, 4, 5, 6, 7, 13, 23, 32, 33, 40, 41, 42, 43, 700, 701, 702, 703};
        int[] want = {4, 64, 11, 12, 13, 4, 1, 8, 5, 1, 0, 14, 15, 16, 17, 3, 4, 5, 2};
        for (int i = 0; i < ask.length; i++) due("told " + ask[i], x.told(ask[i]), want[i]);
        x.set(2, 0);
        due("the table", x.level(1), 7);
        due("its sight", x.moons(), 0);
        x.forget();
        x.seen(6, 7, 0);
        due("another sight", x.moons(), 15);
    }

    private static void restore() {
        begin(38);
        due("2", x.restore(2), -2);
        due("-1", x.restore(-1), -2);
        due("never kept", x.restore(0), -3);
        x.set(0, 5);
        x.image(0);
        x.set(0, 6);
        due("the other was not", x.restore(1), -3);
        x.image(1);
        x.set(0, 7);
        due("0", x.restore(0), 1);
        due("as 0", x.told(3), 5);
        x.set(0, 8);
        due("0 again: a change does not reach it", x.restore(0), 1);
        due("as 0", x.told(3), 5);
        due("1", x.restore(1), 1);
        due("as 1", x.told(3), 6);
        x.barrel(0, 0, 1, 1, 1);
        x.image(0);
        x.barrel(0, 2, 2, 2, 2);
        x.restore(0);
        due("kept anew", x.told(103), 1);
    }

    private static void told() {
        begin(39);
        x.barrel(0, 1, 2, 3, 1);
        x.barrel(7, 2, 9, 8, 3);
        x.cellar(2, 0, 7);
        x.cellar(2, 1, 4);
        x.wall(1, true);
        x.seen(0, 0, 0);
        text("..");
        int[] ask = {0, 1, 2, 3, 4, 5, 6, 7, 10, 12, 20, 22, 30, 31, 40, 43, 100, 101, 102, 103, 800, 801, 802, 803};
        int[] want = {2, 3, 129, 20, 20, 0, 2, 1, 0, 7, 8, 4, 0, 1, 20, 20, 1, 2, 3, 1, 2, 9, 8, 3};
        for (int i = 0; i < ask.length; i++) due("told " + ask[i], x.told(ask[i]), want[i]);
        int[] out = {-1, 8, 9, 13, 19, 23, 29, 33, 39, 44, 50, 99, 104, 199, 200, 700, 804, 900, 903,
            Integer.MAX_VALUE, Integer.MIN_VALUE};
        for (int what : out) due("told " + what, x.told(what), -2);
        x.cellars(6);
        due("six", x.told(15), 5);
        due("no seventh", x.told(16), -2);
    }
}
