/** The edges within what is taken: "0 at least", "up to 99", "or more", "above", "cut", the first of several. */
public final class EdgesTest {
    private static final Bench bench = new Bench("edges");
    private static final int NONE = Bench.NONE;
    private static CellarTides x;

    private static void due(String what, long got, long want) { bench.due(what, got, want); }

    private static void begin(String digits) {
        x = new CellarTides();
        Bench.table(x, digits);
    }

    public static void main(String[] args) {
        breaths(); corks(); acidUpTo99(); acidOfMoves(); vinegar(); vinegarOfOne(); vinegarOf99(); zeroDays();
        work(); handsOfADay(); reasons(); firstPart(); movesOnTheWay();
        plansOfSeveral(); plansChangePlaces(); values(); openings(); banquets();
        pouredByTwos(); pouredCut(); pouredKinds(); pouredFirst(); pouredOnce(); pouredAll();
        doorsAboveNine(); doorsBelowDepth(); doorsAndWalls(); fractions(); fractionsOfTen(); meanOfMany();
        wallsAsBits(); moonsAsBits(); openDays(); sightsOfSeveral(); sightsOfWhatGoes();
        shiftsFewest(); shiftsAnew(); shiftsByLevel(); droughts(); years(); yearsUpTo99();
        cellarsAsAtFirst(); imagesKeepAll(); imagesStand(); settingsApart();
        bench.end();
    }

    /** Level less depth, 0 at least. */
    private static void breaths() {
        for (int level = 0; level <= 9; level++) {
            begin("" + level);
            for (int depth = 0; depth <= 8; depth++) {
                x.cellar(1, 0, depth);
                due("breath of " + level + " at " + depth, x.breath(1, 0), Math.max(0, level - depth));
            }
            x.wall(1, true);
            due("a wall", x.breath(1, 0), 0);
        }
    }

    /** It rises by what the breath is above cork; nothing, if it is not above. */
    private static void corks() {
        for (int cork = 0; cork <= 9; cork++) {
            begin("7");
            x.barrel(0, 1, 1, cork, 0);
            due("behind a day, cork " + cork, x.acid(0, 1), Math.max(0, 6 - cork));
            due("behind two days, cork " + cork, x.acid(0, 2), 2 * Math.max(0, 6 - cork));
        }
        begin("90");
        x.barrel(0, 0, 1, 8, 0);
        due("a still day takes nothing away", x.acid(0, 2), 1);
        due("nor many", x.acid(0, 20), 10);
    }

    private static void acidUpTo99() {
        begin("9");
        x.barrel(0, 0, 1, 0, 0);
        x.barrel(1, 1, 1, 1, 0);
        due("10 days of 9", x.acid(0, 10), 90);
        due("11 days of 9", x.acid(0, 11), 99);
        due("12 days of 9", x.acid(0, 12), 99);
        due("14 days of 7", x.acid(1, 14), 98);
        due("15 days of 7", x.acid(1, 15), 99);
        due("999 days", x.acid(1, 999), 99);
        begin("1");
        x.barrel(0, 0, 1, 0, 0);
        due("98 of 1", x.acid(0, 98), 98);
        due("99 of 1", x.acid(0, 99), 99);
        due("100 of 1", x.acid(0, 100), 99);
        begin("3");
        x.barrel(0, 0, 1, 0, 0);
        x.seen(0, 30, 90);
        due("a sight below it", x.moons(), 1);
        begin("9");
        x.barrel(0, 0, 1, 0, 0);
        x.seen(0, 30, 99);
        due("a sight of it", x.moons(), 1);
        due("by a door no more", x.open(0), 30);
    }

    private static void acidOfMoves() {
        begin("9");
        x.barrel(0, 0, 1, 0, 0);
        Bench.pad(x, ".".repeat(11));
        due("behind 11", x.behind(0, 1), 99);
        Bench.pad(x, ".".repeat(12));
        due("behind 12", x.behind(0, 1), 99);
        Bench.pad(x, ".".repeat(12) + "0b" + ".".repeat(4));
        due("elsewhere too", x.behind(0, 1), 99);
        Bench.pad(x, ".".repeat(10) + "0b.");
        due("98", x.behind(0, 1), 98);
        x.wall(1, true);
        due("behind a wall", x.behind(0, 1), 90);
    }

    /** Acid of sour or more: at sour less 1 it is wine, at sour it is vinegar, for every call that asks. */
    private static void vinegar() {
        begin("1");
        x.barrel(0, 0, 3, 0, 0);
        for (int sour = 4; sour <= 10; sour++) {
            x.set(0, sour);
            int wine = sour - 1;
            due("sours at " + sour, x.sours(0), sour);
            due("wine is not lost", x.lost(wine), 0);
            due("vinegar is lost", x.lost(sour), 3);
            due("wine may stay", x.plan(1, wine, -1), 0);
            due("vinegar may not", x.plan(1, sour, -1), 6);
            due("wine has value", x.value(0, wine), 3 * (50 - (20 - wine) - wine));
            due("vinegar has none", x.value(0, sour), 0);
            due("wine is poured", x.poured(wine, -1), 3);
            due("vinegar is not", x.poured(sour, -1), 0);
            due("wine is not likely vinegar", x.likely(0, wine, 0, 0), 0);
            due("vinegar is for sure", x.likely(0, sour, 0, 0), 1);
            due("mean of wine", x.mean(wine, 0, 0), 0);
            due("mean of vinegar", x.mean(sour, 0, 0), 3);
            due("no drought for wine", x.drought(wine), 0);
            due("a drought against vinegar", x.drought(sour), 1);
        }
        x.barrel(0, 0, 3, 0, 0);
        x.set(0, 4);
        due("a year of 3 days, all shut", x.year(0, 3, 99, 0), 0);
        due("a year of 4 days, all shut", x.year(0, 4, 99, 0), 3);
    }

    private static void vinegarOfOne() {
        begin("01");
        x.set(0, 1);
        x.barrel(0, 0, 2, 0, 0);
        due("behind 0", x.lost(0), 0);
        due("behind 1", x.lost(1), 0);
        due("behind 2", x.lost(2), 2);
        due("sours", x.sours(0), 2);
        x.barrel(0, 1, 2, 0, 0);
        due("never", x.lost(999), 0);
        due("never sours", x.sours(0), NONE);
    }

    private static void vinegarOf99() {
        begin("9");
        x.set(0, 99);
        x.barrel(0, 0, 2, 1, 0);
        due("behind 12 days: 96", x.lost(12), 0);
        due("behind 13 days: up to 99", x.lost(13), 2);
        due("sours", x.sours(0), 13);
        due("poured, 96", x.poured(12, -1), 2);
        due("poured, 99", x.poured(13, -1), 0);
        x.barrel(1, 0, 2, 9, 0);
        due("99 and 0", x.poured(999, -1), 4);
        due("together", x.poured(999, 0), 1);
    }

    private static void zeroDays() {
        begin("9");
        x.set(0, 1);
        x.barrel(0, 0, 5, 0, 0);
        due("acid", x.acid(0, 0), 0);
        due("lost", x.lost(0), 0);
        due("plan", x.plan(1, 0, -1), 0);
        due("plan, of 0", x.plan(1, 0, 0), 0);
        due("value", x.value(0, 0), 150);
        due("poured", x.poured(0, -1), 5);
        due("poured with", x.poured(0, 0), 0);
        due("likely", x.likely(0, 0, 10, 0), 0);
        due("likely, of", x.likely(0, 0, 10, 1), 1);
        due("mean", x.mean(0, 10, 0), 0);
        due("mean, of", x.mean(0, 10, 1), 1);
        due("drought", x.drought(0), 0);
        x.seen(0, 0, 0);
        due("walls", x.walls(), 64 + 7);
        due("moons", x.moons(), 1);
        due("open", x.open(0), 0);
        x.seen(0, 0, 1);
        due("walls of no acid behind 0 days", x.walls(), 0);
        due("moons of none", x.moons(), 0);
    }

    /** Size times how far the depths are from each other, and 1. */
    private static void work() {
        for (int size = 1; size <= 9; size++) {
            for (int to = 0; to <= 8; to++) {
                begin("0");
                x.set(1, 99);
                x.cellar(0, 0, 4);
                x.cellar(1, 0, to);
                x.barrel(0, 0, size, 0, 0);
                Bench.say(x, "0b");
                due("work of " + size + " to " + to, x.judge(2), size * (Math.abs(4 - to) + 1));
                due("hands of " + size + " to " + to, x.hands(), size * (Math.abs(4 - to) + 1));
            }
        }
        begin("0");
        x.cellar(2, 0, 8);
        x.set(1, 81);
        x.barrel(0, 0, 9, 0, 0);
        Bench.say(x, "0c.0a");
        due("the most, down and up", x.judge(2), 162);
        x.set(1, 80);
        due("one hand less", x.judge(0), 0);
    }

    private static void handsOfADay() {
        begin("0");
        x.cellar(2, 0, 8);
        x.barrel(0, 0, 9, 0, 0);
        x.barrel(1, 0, 2, 0, 0);
        x.barrel(2, 0, 1, 0, 0);
        x.set(1, 99);
        Bench.pad(x, "0c1c");
        due("81 and 18: 99 of 99", x.judge(0), NONE);
        due("work", x.judge(2), 99);
        Bench.pad(x, "0c1c2b");
        due("101 of 99: part", x.judge(0), 2);
        due("101 of 99: why", x.judge(1), 4);
        due("the fewest are above 99", x.hands(), 101);
        Bench.pad(x, "0c1c.2b");
        due("on the next day", x.judge(2), 101);
        due("the fewest", x.hands(), 99);
        Bench.pad(x, ".0c1c.2b0a");
        due("each day anew", x.judge(0), NONE);
        due("83 and 99", x.hands(), 99);
        x.set(1, 0);
        Bench.pad(x, "...");
        due("no hands, no moves", x.judge(0), NONE);
        Bench.pad(x, "...2b");
        due("no hands", x.judge(0), 3);
    }

    /** For the least of these reasons, where several fit. */
    private static void reasons() {
        begin("0");
        x.cellar(1, 1, 1);
        x.barrel(0, 0, 9, 0, 0);
        x.barrel(1, 1, 9, 0, 0);
        x.set(1, 0);
        String[] moves = {"2b", "2a", "1b", "0a", "0b", "0c"};
        int[] why = {1, 1, 2, 2, 3, 4};
        for (int i = 0; i < moves.length; i++) {
            Bench.pad(x, moves[i]);
            due("why of " + moves[i], x.judge(1), why[i]);
            due("part of " + moves[i], x.judge(0), 0);
        }
        x.set(1, 99);
        for (int i = 0; i < 5; i++) {
            Bench.pad(x, moves[i]);
            due("with hands: why of " + moves[i], x.judge(1), why[i]);
        }
        Bench.pad(x, "0c");
        due("with hands: none", x.judge(1), NONE);
    }

    private static void firstPart() {
        begin("0");
        x.barrel(0, 0, 1, 0, 0);
        x.barrel(1, 0, 1, 0, 0);
        Bench.pad(x, "0b1b.0b5a");
        due("the first of two", x.judge(0), 3);
        due("its reason", x.judge(1), 2);
        Bench.pad(x, "5a0b1b.0b");
        due("the first of two, turned", x.judge(0), 0);
        due("its reason", x.judge(1), 1);
        Bench.pad(x, "....5a");
        due("days are parts", x.judge(0), 4);
        Bench.pad(x, ".".repeat(58) + "5a");
        due("the last part that fits", x.judge(0), 58);
        Bench.pad(x, "0b0a".repeat(14) + "0b0b");
        due("the thirtieth move", x.judge(0), 10);
        x.set(1, 99);
        due("the thirtieth move, with hands", x.judge(0), 29);
        due("its reason", x.judge(1), 2);
    }

    private static void movesOnTheWay() {
        begin("2");
        x.barrel(0, 0, 1, 0, 0);
        Bench.pad(x, "0b.");
        due("it goes ahead of the day", x.behind(0, 1), 1);
        Bench.pad(x, ".0b");
        due("it goes behind the day", x.behind(0, 1), 2);
        Bench.pad(x, "0b0c.");
        due("twice on one day", x.behind(0, 1), 0);
        due("it lies in c", x.behind(0, 0), 2);
        due("both count", x.judge(2), 4);
        due("where it is now", x.told(100), 0);
        due("acid with nothing moved", x.acid(0, 1), 2);
    }

    private static void plansOfSeveral() {
        begin("4");
        x.cellars(5);
        // a does not do; b and d are as far from c, and do: the first of both
        x.cellar(0, 0, 0);
        x.cellar(1, 0, 8);
        x.cellar(2, 0, 0);
        x.cellar(3, 0, 8);
        x.cellar(4, 0, 4);
        x.barrel(0, 2, 1, 0, 0);
        due("the nearest that does", x.plan(1, 999, 0), 4);
        x.cellar(4, 0, 8);
        due("of three the first", x.plan(1, 999, 0), 1);
        due("its work", x.plan(1, 999, -1), 9);
        x.barrel(1, 2, 1, 0, 0);
        x.cellar(1, 1, 1);
        due("the least barrel has the first", x.plan(3, 999, 0), 1);
        due("the next has the second", x.plan(3, 999, 1), 3);
        x.barrel(1, 3, 1, 0, 0);
        due("who does well stays", x.plan(3, 999, 1), 3);
        due("only moves count", x.plan(3, 999, -1), 9);
        x.barrel(0, 4, 1, 0, 0);
        due("staying is the least work", x.plan(1, 999, 0), 4);
        due("staying: none", x.plan(1, 999, -1), 0);
    }

    /** Moved at once: room counts behind all moves, not on the way. */
    private static void plansChangePlaces() {
        begin("9");
        x.cellar(1, 0, 4);
        x.cellar(2, 0, 8);
        for (int k = 0; k < 3; k++) x.cellar(k, 1, 1);
        x.barrel(0, 0, 1, 1, 0);
        x.barrel(1, 1, 1, 9, 0);
        x.barrel(2, 2, 1, 5, 0);
        // 0 is safe in c alone, 1 anywhere, 2 in b and c
        due("all change", x.plan(7, 999, -1), 9 + 5 + 5);
        due("0 to c", x.plan(7, 999, 0), 2);
        due("1 to a", x.plan(7, 999, 1), 0);
        due("2 to b", x.plan(7, 999, 2), 1);
        due("0 alone has no room", x.plan(1, 999, -1), NONE);
        due("nor have 0 and 2", x.plan(5, 999, -1), NONE);
        x.cellar(1, 1, 2);
        due("0 and 2, one place more in b", x.plan(5, 999, -1), 9 + 5);
        due("1 stays", x.plan(7, 999, 1), 1);
    }

    /** 50 less how far, less acid, 0 at least. */
    private static void values() {
        begin("0");
        x.barrel(0, 0, 9, 0, 3);
        x.set(6, 50);
        int[] days = {0, 1, 2, 49, 50, 51, 98, 99};
        int[] due = {0, 9, 18, 441, 450, 441, 18, 9};
        for (int i = 0; i < days.length; i++) due("value on " + days[i], x.value(0, days[i]), due[i]);
        x.set(6, 99);
        due("49 from the peak: 0", x.value(0, 49), 0);
        due("50 from it", x.value(0, 50), 9);
        due("far from it", x.value(0, 0), 0);
        begin("5");
        x.barrel(0, 0, 1, 0, 0);
        x.set(0, 99);
        due("20 days ahead", x.value(0, 0), 30);
        due("day 5: 25 acid", x.value(0, 5), 50 - 15 - 25);
        due("day 7: 35 acid", x.value(0, 7), 2);
        due("day 8: 40 acid, 0 at least", x.value(0, 8), 0);
        for (int kind = 0; kind < 4; kind++) {
            begin("0");
            x.barrel(0, 0, 1, 0, kind);
            for (int k = 0; k < 4; k++) x.set(3 + k, 10 * (k + 1));
            due("its kind's peak", x.opening(0, 0), 10 * (kind + 1));
        }
    }

    private static void openings() {
        begin("1");
        x.barrel(0, 0, 2, 0, 0);
        due("up to the peak all are as good: the first", x.opening(0, 0), 0);
        due("as good", x.opening(0, 1), 60);
        due("the last of them", x.value(0, 19), 60);
        x.set(3, 0);
        due("a peak on day 0", x.opening(0, 0), 0);
        due("its value", x.opening(0, 1), 100);
        x.set(3, 99);
        due("a peak too far: all are 0: the first", x.opening(0, 0), 0);
        due("none", x.opening(0, 1), 0);
        x.set(3, 50);
        due("never worth anything", x.opening(0, 1), 0);
        x.set(3, 49);
        due("one for each", x.opening(0, 1), 2);
        x.wall(0, true);
        x.set(3, 99);
        due("the last day", x.opening(0, 0), 99);
        due("its value", x.opening(0, 1), 100);
        begin("000005");
        x.barrel(0, 0, 1, 0, 0);
        x.set(0, 5);
        due("the day ahead of vinegar", x.opening(0, 0), 5);
        due("its value", x.opening(0, 1), 35);
        x.set(0, 6);
        due("vinegar a round later", x.opening(0, 0), 11);
        due("its value", x.opening(0, 1), 50 - 9 - 5);
    }

    private static void banquets() {
        begin("0");
        x.set(3, 0);
        x.set(4, 99);
        x.barrel(0, 0, 1, 0, 0);
        x.barrel(1, 0, 1, 0, 1);
        due("as good at both ends: the first", x.banquet(0), 0);
        due("its value", x.banquet(1), 50);
        x.barrel(1, 0, 2, 0, 1);
        due("the last day", x.banquet(0), 99);
        due("its value", x.banquet(1), 100);
        x.set(4, 60);
        x.set(3, 40);
        x.barrel(1, 0, 1, 0, 1);
        due("between both all are as good", x.banquet(0), 40);
        due("together", x.banquet(1), 50 + 30);
        x.barrel(2, 0, 9, 0, 2);
        x.barrel(3, 0, 9, 0, 3);
        for (int b = 4; b < 8; b++) x.barrel(b, 0, 9, 0, 2);
        due("eight barrels", x.banquet(0), 20);
        due("eight barrels, together", x.banquet(1), 6 * 450 + 30 + 10);
    }

    private static void pouredByTwos() {
        begin("2");
        // behind 10 days: 20 in a, 0 with cork 2
        x.barrel(0, 0, 1, 0, 0);
        x.barrel(1, 0, 1, 0, 0);
        x.barrel(2, 0, 1, 2, 0);
        due("one can save but one", x.poured(10, -1), 2);
        due("0 itself is ahead of 0 with 2", x.poured(10, 0), 0);
        due("so it is 1 with 2", x.poured(10, 1), 2);
        due("and 2 with 1", x.poured(10, 2), 1);
        x.barrel(3, 0, 1, 2, 0);
        due("two save two", x.poured(10, -1), 4);
        due("0 with 2", x.poured(10, 0), 2);
        due("1 with 3", x.poured(10, 1), 3);
        due("2 with 0", x.poured(10, 2), 0);
        due("3 with 1", x.poured(10, 3), 1);
        due("all are wine: no one is poured", x.poured(9, 0), 0);
        due("all are wine", x.poured(9, -1), 4);
        x.barrel(1, 0, 5, 0, 0);
        due("5 of 20 and 1 of 0: 16", x.poured(10, -1), 8);
        x.drink(3);
        due("the greater is saved", x.poured(10, -1), 6);
        due("the greater with 2", x.poured(10, 1), 2);
        due("the lesser itself", x.poured(10, 0), 0);
    }

    /** Sizes times acids by both sizes, cut: what is left over does not count. */
    private static void pouredCut() {
        begin("3");
        x.barrel(0, 0, 2, 0, 0);
        x.barrel(1, 2, 1, 0, 0);
        // behind 7 days 21 and 7: 49 by 3 is 16 and 1 left
        int[] sours = {16, 17, 18};
        int[] due = {1, 3, 3};
        for (int i = 0; i < sours.length; i++) {
            x.set(0, sours[i]);
            due("16 and a third, sour of " + sours[i], x.poured(7, -1), due[i]);
        }
        x.barrel(1, 2, 2, 0, 0);
        // 21 and 7: 56 by 4 is just 14
        x.set(0, 14);
        due("just 14", x.poured(7, -1), 2);
        x.set(0, 15);
        due("just below 15", x.poured(7, -1), 4);
        x.barrel(0, 0, 9, 0, 0);
        x.barrel(1, 2, 8, 0, 0);
        // 189 and 56: 245 by 17 is 14 and 7 left
        x.set(0, 14);
        due("14 and 7 left: vinegar of 14", x.poured(7, -1), 8);
        x.set(0, 15);
        due("14 and 7 left: wine of 15", x.poured(7, -1), 17);
        // other kinds: by both sizes still, then one less
        x.barrel(1, 2, 8, 0, 1);
        due("the one that is lost counts in the sizes", x.poured(7, -1), 16);
        x.set(0, 14);
        due("vinegar of 14 still", x.poured(7, -1), 8);
    }

    private static void pouredKinds() {
        begin("2");
        x.barrel(0, 0, 1, 0, 0);
        x.barrel(1, 0, 1, 2, 1);
        // together 2 less 1: as much as 1 alone
        due("nothing is won", x.poured(10, -1), 1);
        due("so none is poured", x.poured(10, 0), 0);
        due("nor the other", x.poured(10, 1), 1);
        x.barrel(0, 0, 1, 0, 1);
        due("of one kind", x.poured(10, -1), 2);
        due("poured", x.poured(10, 0), 1);
        x.barrel(1, 0, 2, 2, 0);
        due("one of another kind, which is greater", x.poured(10, -1), 2);
        due("nothing is won", x.poured(10, 0), 0);
        x.barrel(0, 0, 2, 0, 1);
        due("two and two less one", x.poured(10, -1), 3);
        due("poured", x.poured(10, 0), 1);
        // vinegar with vinegar is vinegar, of which nothing is told
        begin("9");
        x.barrel(0, 0, 3, 0, 0);
        x.barrel(1, 0, 4, 0, 0);
        due("all is vinegar", x.poured(99, -1), 0);
        due("each is itself", x.poured(99, 0), 0);
        due("each is itself", x.poured(99, 1), 1);
    }

    /** Of several the first by partners, the least barrel's first: itself is its own number. */
    private static void pouredFirst() {
        begin("2");
        // 2 and 3 are wine, 5 and 7 vinegar behind 10 days; each wine saves one
        x.barrel(2, 0, 1, 2, 0);
        x.barrel(3, 0, 1, 2, 0);
        x.barrel(5, 0, 1, 0, 0);
        x.barrel(7, 0, 1, 0, 0);
        int[] barrels = {2, 3, 5, 7}, due = {5, 7, 2, 3};
        due("four", x.poured(10, -1), 4);
        for (int i = 0; i < 4; i++) due("partner of " + barrels[i], x.poured(10, barrels[i]), due[i]);
        x.drink(7);
        // 5 is saved by 2 or by 3: 2 itself is ahead of 2 with 5
        due("three", x.poured(10, -1), 3);
        int[] few = {2, 5, 3};
        for (int i = 0; i < 3; i++) due("partner of " + barrels[i], x.poured(10, barrels[i]), few[i]);
        x.barrel(0, 0, 1, 0, 0);
        due("two wines, two vinegars again", x.poured(10, -1), 4);
        due("0 with the first that does", x.poured(10, 0), 2);
        due("3 with 5", x.poured(10, 3), 5);
    }

    private static void pouredOnce() {
        begin("2");
        // 0 is vinegar behind 10 days, 1 and 2 are wine: who is poured is not poured again
        x.barrel(0, 0, 1, 0, 0);
        x.barrel(1, 0, 1, 2, 0);
        x.barrel(2, 0, 1, 2, 0);
        int[] due = {1, 0, 2};
        for (int b = 0; b < 3; b++) due("partner of " + b, x.poured(10, b), due[b]);
        x.barrel(3, 0, 1, 0, 0);
        x.barrel(4, 0, 1, 2, 0);
        int[] five = {1, 0, 2, 4, 3};
        due("five, one itself", x.poured(10, -1), 5);
        for (int b = 0; b < 5; b++) due("partner of five of " + b, x.poured(10, b), five[b]);
    }

    private static void pouredAll() {
        begin("2");
        for (int b = 0; b < 8; b++) x.barrel(b, 0, 9, b < 4 ? 0 : 2, 0);
        due("eight by twos", x.poured(10, -1), 72);
        for (int b = 0; b < 8; b++) due("partner of " + b, x.poured(10, b), (b + 4) % 8);
        for (int b = 0; b < 8; b++) x.barrel(b, 0, 9, b % 2 == 0 ? 0 : 2, b / 2);
        due("each with its kind", x.poured(10, -1), 72);
        for (int b = 0; b < 8; b++) due("partner by kind of " + b, x.poured(10, b), b ^ 1);
        for (int b = 0; b < 8; b++) x.barrel(b, 0, 9, b % 2 == 0 ? 0 : 2, b % 2);
        due("no two of a kind: one less each", x.poured(10, -1), 68);
        for (int b = 0; b < 8; b++) due("partner of another kind of " + b, x.poured(10, b), b ^ 1);
    }

    private static void doorsAboveNine() {
        begin("9");
        x.barrel(0, 0, 1, 9, 0);
        x.set(0, 1);
        due("shut", x.likely(0, 10, 0, 0), 0);
        due("a door makes it 10", x.likely(0, 1, 10, 0), 1);
        x.seen(0, 1, 1);
        due("seen by a door", x.open(0), 1);
        due("a year of one day", x.year(0, 1, 1, 0), 1);
        x.cellar(0, 0, 1);
        due("1 deep: not felt", x.likely(0, 10, 10, 0), 0);
        x.cellar(0, 0, 8);
        x.barrel(0, 0, 1, 1, 0);
        due("8 deep, cork of 1", x.likely(0, 1, 10, 0), 1);
        x.barrel(0, 0, 1, 2, 0);
        due("8 deep, cork of 2", x.likely(0, 10, 10, 0), 0);
    }

    private static void doorsBelowDepth() {
        begin("2");
        x.cellar(1, 0, 3);
        x.cellar(2, 0, 2);
        x.barrel(0, 1, 1, 0, 0);
        x.barrel(1, 2, 1, 0, 0);
        x.set(0, 1);
        due("3 of 3 deep is no breath", x.likely(0, 10, 10, 0), 0);
        due("3 of 2 deep is", x.likely(1, 1, 10, 0), 1);
        due("a year: one of both", x.year(0, 9, 1, 0), 1);
        x.seen(0, 4, 0);
        due("a door is not felt: all four days", x.open(0), 4);
        x.seen(1, 4, 1);
        due("by the other it is: all four days", x.open(0), 4);
        x.seen(1, 4, 0);
        due("both can not be", x.open(0), 0);
    }

    private static void doorsAndWalls() {
        begin("9");
        x.barrel(0, 0, 4, 0, 0);
        x.wall(0, true);
        x.set(0, 1);
        due("likely", x.likely(0, 10, 10, 0), 0);
        due("mean", x.mean(10, 10, 0), 0);
        due("year", x.year(0, 999, 1, 0), 0);
        due("year's days", x.year(0, 999, 1, 1), 999);
        x.seen(0, 5, 0);
        due("open on any", x.open(0), 5);
        due("walls: a alone", x.walls(), 1);
        x.wall(0, false);
        due("walls: as it is does not count", x.walls(), 1);
        due("open: as it is counts", x.open(0), 0);
    }

    private static void fraction(String what, long upper, long lower, long dueUpper, long dueLower) {
        due(what, upper, dueUpper);
        due(what + ", of", lower, dueLower);
    }

    private static void fractions() {
        begin("9");
        x.barrel(0, 0, 1, 9, 0);
        for (int sour = 1; sour <= 3; sour++) {
            x.set(0, sour);
            // one, two, three doors or more of three days, by a half: 7, 4, 1 of 8
            long[] upper = {7, 1, 1}, lower = {8, 2, 8};
            fraction("by halves " + sour, x.likely(0, 3, 5, 0), x.likely(0, 3, 5, 1), upper[sour - 1], lower[sour - 1]);
        }
        x.set(0, 4);
        fraction("four of three days", x.likely(0, 3, 5, 0), x.likely(0, 3, 5, 1), 0, 1);
        x.set(0, 1);
        fraction("by 4 tenths, one day", x.likely(0, 1, 4, 0), x.likely(0, 1, 4, 1), 2, 5);
        fraction("by 4 tenths, two days", x.likely(0, 2, 4, 0), x.likely(0, 2, 4, 1), 16, 25);
        fraction("by 1 tenth, two days", x.likely(0, 2, 1, 0), x.likely(0, 2, 1, 1), 19, 100);
        fraction("by 0 tenths", x.likely(0, 10, 0, 0), x.likely(0, 10, 0, 1), 0, 1);
        fraction("by 10 tenths", x.likely(0, 1, 10, 0), x.likely(0, 1, 10, 1), 1, 1);
    }

    private static void fractionsOfTen() {
        begin("9");
        x.barrel(0, 0, 1, 9, 0);
        x.set(0, 1);
        // 1 less 9 tenths ten times
        fraction("one of ten days", x.likely(0, 10, 1, 0), x.likely(0, 10, 1, 1), 10000000000L - 3486784401L, 10000000000L);
        x.set(0, 10);
        fraction("all ten days", x.likely(0, 10, 1, 0), x.likely(0, 10, 1, 1), 1, 10000000000L);
        fraction("all ten days, by 9 tenths", x.likely(0, 10, 9, 0), x.likely(0, 10, 9, 1), 3486784401L, 10000000000L);
        fraction("all ten days, by a half", x.likely(0, 10, 5, 0), x.likely(0, 10, 5, 1), 1, 1024);
        x.set(0, 11);
        fraction("eleven of ten days", x.likely(0, 10, 9, 0), x.likely(0, 10, 9, 1), 0, 1);
        x.set(0, 99);
        x.barrel(0, 0, 1, 0, 0);
        fraction("nine doors: 99", x.likely(0, 10, 9, 0), x.likely(0, 10, 9, 1), 3486784401L + 10 * 387420489L, 10000000000L);
    }

    private static void meanOfMany() {
        begin("9");
        x.set(0, 1);
        for (int b = 0; b < 8; b++) x.barrel(b, 0, 9, 9, 0);
        fraction("eight of 9 by a tenth", x.mean(1, 1, 0), x.mean(1, 1, 1), 36, 5);
        fraction("eight of 9 by 10 tenths", x.mean(10, 10, 0), x.mean(10, 10, 1), 72, 1);
        fraction("eight of 9 on ten days", x.mean(10, 1, 0), x.mean(10, 1, 1),
            72 * (10000000000L - 3486784401L) / 8, 10000000000L / 8);
        for (int b = 1; b < 8; b++) x.drink(b);
        fraction("one of 9", x.mean(1, 1, 0), x.mean(1, 1, 1), 9, 10);
        x.barrel(0, 0, 1, 9, 0);
        fraction("one of 1", x.mean(1, 1, 0), x.mean(1, 1, 1), 1, 10);
    }

    /** Just one wall and no other, or none (64), whichever stand. */
    private static void wallsAsBits() {
        for (int k = 0; k < 6; k++) {
            x = new CellarTides();
            x.cellars(6);
            Bench.table(x, "9");
            x.barrel(0, k, 1, 0, 0);
            x.seen(0, 1, 0);
            due("no breath in " + k, x.walls(), 1 << k);
            x.forget();
            x.seen(0, 1, 9 - k);
            due("breath in " + k, x.walls(), 127 - (1 << k));
            for (int w = 0; w < 6; w++) x.wall(w, true);
            due("breath in " + k + ", walls all around", x.walls(), 127 - (1 << k));
            x.barrel(1, (k + 1) % 6, 1, 0, 0);
            x.forget();
            x.seen(0, 1, 0);
            x.seen(1, 1, 0);
            due("two without breath: no one wall", x.walls(), 0);
        }
        begin("0");
        x.barrel(0, 0, 1, 0, 0);
        x.seen(0, 30, 0);
        due("no breath at all: any wall, or none", x.walls(), 71);
    }

    private static void moonsAsBits() {
        String digits = "123456789123456789123456789123";
        begin(digits);
        x.barrel(0, 0, 1, 0, 0);
        x.seen(0, 1, 3);
        due("3 at places 2, 11, 20, 29", x.moons(), 1 << 2 | 1 << 11 | 1 << 20 | 1 << 29);
        x.seen(0, 2, 4);
        due("then 1: the last", x.moons(), 1 << 29);
        x.forget();
        x.seen(0, 30, 99);
        due("all of thirty", x.moons(), (1 << 30) - 1);
        begin("5");
        x.barrel(0, 0, 1, 0, 0);
        x.set(2, 29);
        x.seen(0, 2, 10);
        due("one digit: phase 0 alone", x.moons(), 1);
        x.seen(0, 2, 11);
        due("one digit: none", x.moons(), 0);
    }

    private static void openDays() {
        begin("4");
        x.barrel(0, 0, 1, 0, 0);
        for (int d = 0; d <= 20; d++) {
            x.forget();
            x.seen(0, d, 4 * d + 1);
            due("days ahead of the " + d + "th", x.open(0), d == 0 ? 0 : d);
            due("the first of " + d, x.open(1), d == 0 ? NONE : 0);
        }
        begin("1");
        x.barrel(0, 0, 1, 0, 0);
        x.seen(0, 29, 29);
        x.seen(0, 30, 31);
        due("day 29 alone", x.open(0), 1);
        due("day 29", x.open(1), 29);
        x.forget();
        // said the other way around
        x.seen(0, 30, 31);
        x.seen(0, 29, 29);
        due("day 29 alone, turned", x.open(0), 1);
        due("day 29, turned", x.open(1), 29);
        x.forget();
        x.seen(0, 30, 31);
        x.seen(0, 1, 2);
        due("day 0 alone", x.open(0), 1);
        due("day 0", x.open(1), 0);
    }

    private static void sightsOfSeveral() {
        begin("3");
        x.barrel(0, 0, 1, 0, 0);
        for (int i = 1; i < 6; i++) x.seen(0, i, 3 * i);
        x.seen(0, 8, 25);
        due("the sixth is the latest: days 5, 6, 7", x.open(0), 3);
        due("the first of them", x.open(1), 5);
        begin("3");
        x.barrel(0, 0, 1, 0, 0);
        x.barrel(1, 2, 1, 0, 0);
        x.barrel(2, 1, 1, 1, 0);
        x.seen(0, 4, 13);
        x.seen(1, 4, 5);
        x.seen(2, 4, 5);
        due("one door, felt by all", x.open(0), 4);
        x.seen(1, 2, 3);
        due("of the first two", x.open(0), 2);
        x.seen(2, 1, 1);
        due("not the first", x.open(1), 1);
        x.seen(0, 6, 19);
        due("none later", x.open(0), 1);
    }

    /** As NOTES.md says: sights stay when a barrel is drunk, and do not hold until it is there again. */
    private static void sightsOfWhatGoes() {
        begin("3");
        x.barrel(0, 0, 1, 0, 0);
        x.seen(0, 2, 6);
        x.drink(0);
        due("the sight stays", x.told(7), 1);
        due("it does not hold", x.moons(), 0);
        x.barrel(0, 0, 9, 0, 3);
        due("as it was: it holds", x.moons(), 1);
        x.barrel(0, 1, 9, 0, 3);
        due("elsewhere: it does not", x.moons(), 0);
    }

    private static void shiftsFewest() {
        begin("090909");
        due("three of one day", x.shifts(9, 1, 0), 3);
        due("on 1, 3, 5", x.shifts(9, 1, 1), 2 + 8 + 32);
        due("rows of two wake one each", x.shifts(9, 2, 0), 3);
        due("least as bits: 0, 2, 4", x.shifts(9, 2, 1), 1 + 4 + 16);
        due("rows of three wake two", x.shifts(9, 3, 0), 2);
        due("least as bits: 0 and 3, not 1 and 3", x.shifts(9, 3, 1), 1 + 8);
        begin("900000");
        due("one", x.shifts(9, 1, 1), 1);
        due("one, rows of five", x.shifts(9, 5, 1), 1);
        begin("000009");
        due("the last, rows of 5: day 1", x.shifts(9, 5, 1), 2);
        begin("999999999999");
        for (int r = 1; r <= 12; r++) due("all twelve, rows of " + r, x.shifts(0, r, 0), (12 + r - 1) / r);
        due("rows of six: 0 and 6", x.shifts(0, 6, 1), 1 + 64);
        due("rows of eleven: 0 and 1", x.shifts(0, 11, 1), 3);
        due("rows of seven: 0 and 5", x.shifts(0, 7, 1), 1 + 32);
    }

    /** What was asked of a longer table, or of longer rows, is nothing to a shorter one. */
    private static void shiftsAnew() {
        begin("999999999999");
        due("one wakes all twelve", x.shifts(9, 30, 0), 1);
        for (int length = 12; length >= 1; length--) {
            Bench.table(x, "9".repeat(length));
            due("by ones, of " + length, x.shifts(9, 1, 0), length);
            due("by ones, days of " + length, x.shifts(9, 1, 1), (1 << length) - 1);
            due("one wakes all of " + length, x.shifts(9, 30, 1), 1);
        }
    }

    private static void shiftsByLevel() {
        begin("3579");
        int[] due = {4, 4, 4, 4, 3, 3, 2, 2, 1, 1};
        for (int t = 0; t <= 9; t++) due("level " + t + " or more", x.shifts(t, 1, 0), due[t]);
        begin("8888");
        due("no level of 9", x.shifts(9, 30, 0), 0);
        due("no days of 9", x.shifts(9, 30, 1), 0);
        due("level 8", x.shifts(8, 30, 1), 1);
        begin("0");
        due("level 0 is 0 or more", x.shifts(0, 1, 0), 1);
        due("level 0 is not 1", x.shifts(1, 1, 0), 0);
    }

    /** Every drought from 0 to 9 is told for some level. */
    private static void droughts() {
        for (int level = 0; level <= 9; level++) {
            begin("" + level);
            x.barrel(0, 0, 1, 0, 0);
            x.set(0, 1);
            due("level " + level + ", not a drop", x.drought(1), level);
            x.wall(0, true);
            due("level " + level + ", a wall", x.drought(999), 0);
        }
        begin("19");
        x.barrel(0, 0, 1, 0, 0);
        x.set(0, 7);
        // 1 and 9 less k, 0 at least: 10 8 7 6
        due("levels are 0 at least", x.drought(2), 3);
        x.set(0, 8);
        due("two less: 0 and 7", x.drought(2), 2);
        x.set(0, 9);
        due("one less: 0 and 8", x.drought(2), 1);
        x.set(0, 11);
        due("none less: 10", x.drought(2), 0);
        x.barrel(1, 1, 1, 0, 0);
        x.cellar(1, 0, 0);
        x.set(0, 9);
        due("of all barrels", x.drought(2), 1);
    }

    private static void years() {
        begin("9");
        x.barrel(0, 0, 1, 9, 0);
        // from 0: 74, 5624, 28652, 51790; from 5: 449, 33749, 40843 (2531249 less 38 times 65537)
        due("one day by 74", x.year(0, 1, 74, 1), 1);
        due("one day by 75", x.year(0, 1, 75, 1), 0);
        due("from 5 by 1", x.year(5, 3, 1, 1), 3);
        due("from 5 by 2: all odd", x.year(5, 3, 2, 1), 0);
        for (int sour = 1; sour <= 4; sour++) {
            x.set(0, sour);
            due("four open days, sour of " + sour, x.year(0, 4, 2, 0), 1);
        }
        x.set(0, 5);
        due("four open days, sour of 5", x.year(0, 4, 2, 0), 0);
        x.set(0, 1);
        due("a door on the first day", x.year(0, 1, 37, 0), 1);
        due("no door on the first day", x.year(0, 1, 99, 0), 0);
        due("the draws begin anew", x.year(0, 1, 37, 0), 1);
    }

    private static void yearsUpTo99() {
        begin("9");
        x.set(0, 99);
        x.barrel(0, 0, 5, 0, 0);
        due("9 open days: 90", x.year(0, 9, 1, 0), 0);
        due("10 open days: up to 99", x.year(0, 10, 1, 0), 5);
        due("999 open days", x.year(9999, 999, 1, 0), 5);
    }

    private static void cellarsAsAtFirst() {
        for (int n = 1; n <= 6; n++) {
            x = new CellarTides();
            Bench.rich(x);
            due("which it was", x.cellars(n), 6);
            due("which it was then", x.cellars(n), n);
            for (int k = 0; k < n; k++) {
                due("depth of " + k, x.told(10 + k), k);
                due("room of " + k, x.told(20 + k), 8);
                due("wall of " + k, x.told(30 + k), 0);
            }
            due("barrels go", x.told(2), 0);
            due("sights go", x.told(7), 0);
            int[] stay = {0, 3, 4, 5, 6, 40, 41, 42, 43}, are = {10, 35, 26, 4, 9, 20, 17, 14, 11};
            for (int i = 0; i < stay.length; i++) due("what is not of cellars stays: " + stay[i], x.told(stay[i]), are[i]);
            due("the table stays", x.level(0), "161803398".charAt(4) - '0');
            due("image 0 stays", x.restore(0), 1);
            due("its cellars", x.told(1), 5);
            due("its barrels", x.told(2), 63);
            due("its sights", x.told(7), 1);
        }
    }

    /** All but the pad is kept: whatever is changed is as it was. */
    private static void imagesKeepAll() {
        Bench.Scene[] changes = {y -> y.cellars(2), y -> y.cellar(1, 0, 8), y -> y.cellar(1, 1, 7), y -> y.wall(1, true),
            y -> y.wall(4, false), y -> y.barrel(3, 0, 1, 1, 1), y -> y.barrel(0, 2, 1, 9, 0), y -> y.barrel(7, 2, 9, 9, 3), y -> y.drink(5), y -> y.set(0, 99), y -> y.set(1, 98),
            y -> y.set(2, 29), y -> y.set(3, 97), y -> y.set(4, 96), y -> y.set(5, 95), y -> y.set(6, 94), y -> y.seen(5, 5, 5),
            y -> y.forget(), y -> { Bench.table(y, "55"); Bench.say(y, "0c.6d.7e.."); }};
        for (int n = 0; n < 2; n++) {
            int image = n;
            for (int i = 0; i < changes.length; i++) {
                Bench.Scene change = changes[i];
                bench.unchanged("image " + n + " against change " + i, y -> { Bench.rich(y); y.image(image); },
                    y -> { change.build(y); return y.restore(image); });
            }
        }
        imageOfFull();
        begin("4");
        Bench.say(x, "abc");
        x.image(0);
        Bench.say(x, "de");
        x.restore(0);
        due("signs said since stay", x.told(0), 5);
        x.wipe();
        x.restore(0);
        due("signs wiped since stay so", x.told(0), 0);
    }

    /** Thirty digits, six sights, six cellars, eight barrels: the last of each is kept too. */
    private static void imageOfFull() {
        begin("000000000000000000000000000007");
        x.cellars(6);
        x.cellar(5, 0, 8);
        x.cellar(5, 1, 2);
        x.wall(5, true);
        for (int b = 0; b < 8; b++) x.barrel(b, 0, b + 1, b == 1 ? 9 : 0, 0);
        for (int i = 0; i < 5; i++) x.seen(0, i, 0);
        x.seen(7, 30, 7);
        x.image(0);
        x.cellars(1);
        Bench.table(x, "1".repeat(30));
        x.barrel(7, 0, 1, 9, 1);
        x.barrel(1, 0, 1, 0, 0);
        for (int i = 0; i < 6; i++) x.seen(1, 20, 20);
        x.restore(0);
        due("the last digit", x.level(29), 7);
        due("the last cellar's depth", x.told(15), 8);
        due("the last cellar's room", x.told(25), 2);
        due("the last cellar's wall", x.told(35), 1);
        due("the last barrel", x.told(801), 8);
        due("six sights", x.told(7), 6);
        due("the last sight: not with a wall in a", x.walls(), 126);
        due("any round has one 7, by these phases not on the first 4 days", x.moons(), (1 << 26) - 1);
        due("the last sight: no door was open", x.open(0), 0);
    }

    /** An image stands for itself: neither later changes nor restoring the other reach it. */
    private static void imagesStand() {
        begin("4");
        x.barrel(0, 0, 1, 0, 0);
        x.image(0);
        x.barrel(0, 0, 2, 0, 0);
        x.image(1);
        x.barrel(0, 0, 3, 0, 0);
        due("now", x.told(101), 3);
        due("1", x.restore(1), 1);
        due("as 1", x.told(101), 2);
        x.barrel(0, 0, 4, 0, 0);
        due("0", x.restore(0), 1);
        due("as 0", x.told(101), 1);
        due("1 again", x.restore(1), 1);
        due("as 1, in spite of the change", x.told(101), 2);
        due("0 becomes 1", x.image(0), 1);
        x.drink(0);
        due("0", x.restore(0), 1);
        due("as 1", x.told(101), 2);
    }

    private static void settingsApart() {
        begin("1");
        x.barrel(0, 0, 1, 0, 0);
        x.set(1, 0);
        due("hands are nothing to plans", x.plan(1, 20, -1), 2);
        due("nor to acid", x.acid(0, 20), 20);
        x.set(3, 0);
        due("peaks are nothing to acid", x.acid(0, 20), 20);
        x.set(0, 1);
        due("sour is nothing to acid", x.acid(0, 20), 20);
        x.set(2, 29);
        due("the phase of one digit is nothing", x.acid(0, 20), 20);
        CellarTides other = new CellarTides();
        due("another object is as at first", other.told(3), 20);
        due("another object has its own table", other.level(1), 5);
    }
}
