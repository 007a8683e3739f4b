/**
 * Each refusal that a promise names, alone; each two that would fit one call, of which the first as
 * told is answered; and that none of these calls, nor any question, has changed anything.
 */
public final class RefusalsTest {
    private static final Bench bench = new Bench("refusals");
    private static final int UNKNOWN = Bench.UNKNOWN, OUTSIDE = Bench.OUTSIDE, STATE = Bench.STATE, FULL = Bench.FULL,
        NO = Bench.NO, NONE = Bench.NONE;
    private static final long GONE = Bench.GONE;
    private static final int LEAST = Integer.MIN_VALUE, MOST = Integer.MAX_VALUE;

    private static void refused(String what, Bench.Scene scene, Bench.Ask call, long refusal) {
        bench.refused(what, scene, call, refusal);
    }

    public static void main(String[] args) {
        cellar(); barrel(); drink(); set(); say(); table(); fault();
        breath(); judge(); behind(); hands(); acidValueOpening(); plan(); planFull(); poured();
        fractions(); seen(); shifts(); imagesAndRestore(); quietAndWall();
        refusedAgain(); questions(); changesOnlyWhatTheySay();
        bench.end();
    }

    /** Cellar a holds barrels 0, 1 and 2 and has room for just these; b holds 3; the rest is as in a rich town. */
    private static void crowded(CellarTides x) {
        Bench.rich(x);
        for (int b = 0; b < 8; b++) x.drink(b);
        for (int b = 0; b < 3; b++) x.barrel(b, 0, b + 1, 0, b);
        x.cellar(0, 1, 3);
        x.barrel(3, 1, 4, 0, 0);
        x.wipe();
    }

    private static Bench.Scene crowded(String signs) {
        return x -> { crowded(x); Bench.say(x, signs); };
    }

    private static void cellar() {
        refused("cellar: unknown", RefusalsTest::crowded, x -> x.cellar(6, 0, 1), UNKNOWN);
        refused("cellar: unknown, then what", RefusalsTest::crowded, x -> x.cellar(6, 2, 1), UNKNOWN);
        refused("cellar: unknown, then depth", RefusalsTest::crowded, x -> x.cellar(-1, 0, 9), UNKNOWN);
        refused("cellar: unknown, then room", RefusalsTest::crowded, x -> x.cellar(LEAST, 1, 0), UNKNOWN);
        refused("cellar: what", RefusalsTest::crowded, x -> x.cellar(0, 2, 1), OUTSIDE);
        refused("cellar: depth", RefusalsTest::crowded, x -> x.cellar(0, 0, 9), OUTSIDE);
        refused("cellar: what, where the room would be too little", RefusalsTest::crowded, x -> x.cellar(0, 2, 2), OUTSIDE);
        refused("cellar: room 0, which is too little too", RefusalsTest::crowded, x -> x.cellar(0, 1, 0), OUTSIDE);
        refused("cellar: room -1, which is too little too", RefusalsTest::crowded, x -> x.cellar(0, 1, -1), OUTSIDE);
        refused("cellar: three lie there", RefusalsTest::crowded, x -> x.cellar(0, 1, 2), STATE);
        refused("cellar: three lie there, room for 1", RefusalsTest::crowded, x -> x.cellar(0, 1, 1), STATE);
        bench.due("cellar: just as many as lie there", RefusalsTest::crowded, x -> x.cellar(0, 1, 3), 3);
        bench.due("cellar: one lies there", RefusalsTest::crowded, x -> x.cellar(1, 1, 1), 8);
        bench.due("cellar: none lies there", RefusalsTest::crowded, x -> x.cellar(3, 1, 1), 8);
        bench.due("cellar: two are left", x -> { crowded(x); x.drink(1); }, x -> x.cellar(0, 1, 2), 3);
        bench.due("cellar: depth 0 needs no room", RefusalsTest::crowded, x -> x.cellar(0, 0, 0), 0);
        Bench.Scene eight = x -> { for (int b = 0; b < 8; b++) x.barrel(b, 2, 1, 0, 0); };
        refused("cellar: eight lie there", eight, x -> x.cellar(2, 1, 7), STATE);
        bench.due("cellar: eight lie there, room for 8", eight, x -> x.cellar(2, 1, 8), 8);
    }

    private static void barrel() {
        refused("barrel: no such barrel", RefusalsTest::crowded, x -> x.barrel(8, 1, 1, 0, 0), UNKNOWN);
        refused("barrel: no such cellar", RefusalsTest::crowded, x -> x.barrel(4, 6, 1, 0, 0), UNKNOWN);
        refused("barrel: neither", RefusalsTest::crowded, x -> x.barrel(-1, -1, 1, 0, 0), UNKNOWN);
        refused("barrel: no such barrel, size", RefusalsTest::crowded, x -> x.barrel(8, 1, 0, 0, 0), UNKNOWN);
        refused("barrel: no such barrel, cork", RefusalsTest::crowded, x -> x.barrel(8, 1, 1, 10, 0), UNKNOWN);
        refused("barrel: no such barrel, kind", RefusalsTest::crowded, x -> x.barrel(8, 1, 1, 0, 4), UNKNOWN);
        refused("barrel: no such cellar, size", RefusalsTest::crowded, x -> x.barrel(4, 6, 10, 0, 0), UNKNOWN);
        refused("barrel: no such barrel, no room", RefusalsTest::crowded, x -> x.barrel(8, 0, 1, 0, 0), UNKNOWN);
        refused("barrel: no such barrel, size, no room", RefusalsTest::crowded, x -> x.barrel(MOST, 0, LEAST, 0, 0), UNKNOWN);
        refused("barrel: size, no room", RefusalsTest::crowded, x -> x.barrel(4, 0, 0, 0, 0), OUTSIDE);
        refused("barrel: cork, no room", RefusalsTest::crowded, x -> x.barrel(4, 0, 1, -1, 0), OUTSIDE);
        refused("barrel: kind, no room", RefusalsTest::crowded, x -> x.barrel(4, 0, 1, 0, 4), OUTSIDE);
        refused("barrel: size, of one that is there", RefusalsTest::crowded, x -> x.barrel(1, 0, 10, 0, 0), OUTSIDE);
        refused("barrel: no room for a new one", RefusalsTest::crowded, x -> x.barrel(4, 0, 1, 0, 0), FULL);
        refused("barrel: no room for one from b", RefusalsTest::crowded, x -> x.barrel(3, 0, 1, 0, 0), FULL);
        bench.due("barrel: room for itself", RefusalsTest::crowded, x -> x.barrel(2, 0, 9, 9, 3), 4);
        bench.due("barrel: it goes to b", RefusalsTest::crowded, x -> x.barrel(2, 1, 9, 9, 3), 4);
        bench.due("barrel: room again", x -> { crowded(x); x.barrel(2, 1, 1, 0, 0); }, x -> x.barrel(4, 0, 1, 0, 0), 5);
        bench.due("barrel: room by drinking", x -> { crowded(x); x.drink(2); }, x -> x.barrel(4, 0, 1, 0, 0), 4);
        bench.due("barrel: room by more room", x -> { crowded(x); x.cellar(0, 1, 4); }, x -> x.barrel(4, 0, 1, 0, 0), 5);
    }

    private static void drink() {
        refused("drink: not there", RefusalsTest::crowded, x -> x.drink(4), UNKNOWN);
        refused("drink: no such", RefusalsTest::crowded, x -> x.drink(8), UNKNOWN);
        refused("drink: twice", x -> { crowded(x); x.drink(0); }, x -> x.drink(0), UNKNOWN);
        refused("drink: none at all", Bench::asAtFirst, x -> x.drink(0), UNKNOWN);
    }

    private static void set() {
        refused("set: which and number", Bench::rich, x -> x.set(7, 100), OUTSIDE);
        refused("set: which", Bench::rich, x -> x.set(-1, 20), OUTSIDE);
        refused("set: sour 0", Bench::rich, x -> x.set(0, 0), OUTSIDE);
        refused("set: a phase that the table's length would allow no more", Bench::rich, x -> x.set(2, 30), OUTSIDE);
        bench.due("set: a phase above the table's length", Bench::rich, x -> x.set(2, 29), 4);
    }

    private static void say() {
        Bench.Scene full = x -> { Bench.rich(x); Bench.pad(x, ".".repeat(60)); };
        Bench.Scene nearly = x -> { Bench.rich(x); Bench.pad(x, ".".repeat(59)); };
        refused("say: full", full, x -> x.say('.'), FULL);
        refused("say: full and no sign", full, x -> x.say(32), OUTSIDE);
        refused("say: full and no sign, above", full, x -> x.say(127), OUTSIDE);
        bench.due("say: the last that fits", nearly, x -> x.say('.'), 60);
        refused("say: no sign, one place left", nearly, x -> x.say(32), OUTSIDE);
    }

    private static void table() {
        refused("table: a fault", crowded("12a"), x -> x.table(), NO);
        refused("table: no signs", crowded(""), x -> x.table(), NO);
        refused("table: moves without fault", crowded("0a."), x -> x.table(), NO);
        bench.due("table: digits that have a fault as moves", crowded("99"), x -> x.table(), 2);
    }

    private static void fault() {
        refused("fault: how, with a fault", crowded("x"), x -> x.fault(2), OUTSIDE);
        refused("fault: how, without", crowded("."), x -> x.fault(-1), OUTSIDE);
    }

    private static void breath() {
        refused("breath: unknown, then day", RefusalsTest::crowded, x -> x.breath(6, 1000), UNKNOWN);
        refused("breath: unknown, then day", RefusalsTest::crowded, x -> x.breath(-1, -1), UNKNOWN);
        refused("breath: day, where there is a wall", RefusalsTest::crowded, x -> x.breath(4, 1000), OUTSIDE);
    }

    private static final String FAULT = "0d.0", STUCK = "0d.0d", BOTH = "4a.0";

    private static void judge() {
        for (int what = 0; what < 4; what++) {
            int one = what;
            refused("judge: a fault", crowded(FAULT), x -> x.judge(one), NO);
            refused("judge: a fault behind a move that can not be", crowded(BOTH), x -> x.judge(one), NO);
        }
        refused("judge: what, with a fault", crowded(FAULT), x -> x.judge(4), OUTSIDE);
        refused("judge: what, with a move that can not be", crowded(STUCK), x -> x.judge(-1), OUTSIDE);
        refused("judge: what, with both", crowded(BOTH), x -> x.judge(MOST), OUTSIDE);
        refused("judge: work, with a move that can not be", crowded(STUCK), x -> x.judge(2), STATE);
        refused("judge: days, with a move that can not be", crowded(STUCK), x -> x.judge(3), STATE);
        bench.due("judge: the part is told", crowded(STUCK), x -> x.judge(0), 2);
        bench.due("judge: why is told", crowded(STUCK), x -> x.judge(1), 2);
    }

    private static void behind() {
        refused("behind: not there", crowded("0d"), x -> x.behind(4, 0), UNKNOWN);
        refused("behind: not there, what", crowded("0d"), x -> x.behind(4, 2), UNKNOWN);
        refused("behind: not there, a fault", crowded(FAULT), x -> x.behind(4, 0), UNKNOWN);
        refused("behind: not there, a move that can not be", crowded(STUCK), x -> x.behind(4, 0), UNKNOWN);
        refused("behind: no such, all others too", crowded(BOTH), x -> x.behind(-1, -1), UNKNOWN);
        refused("behind: what", crowded("0d"), x -> x.behind(0, 2), OUTSIDE);
        refused("behind: what, a fault", crowded(FAULT), x -> x.behind(0, 2), OUTSIDE);
        refused("behind: what, a move that can not be", crowded(STUCK), x -> x.behind(0, 2), OUTSIDE);
        refused("behind: a fault", crowded(FAULT), x -> x.behind(0, 0), NO);
        refused("behind: a fault and a move that can not be", crowded(BOTH), x -> x.behind(0, 1), NO);
        refused("behind: a move of another that can not be", crowded(STUCK), x -> x.behind(1, 1), STATE);
        bench.due("behind: all can be", crowded("0d"), x -> x.behind(0, 0), 3);
    }

    private static void hands() {
        refused("hands: a fault", crowded(FAULT), x -> x.hands(), NO);
        refused("hands: a fault and a move that can not be", crowded(BOTH), x -> x.hands(), NO);
        bench.due("hands: a move that can not be", crowded(STUCK), x -> x.hands(), NONE);
    }

    private static void acidValueOpening() {
        refused("acid: not there, d", RefusalsTest::crowded, x -> x.acid(4, 1000), UNKNOWN);
        refused("acid: no such, d", RefusalsTest::crowded, x -> x.acid(8, -1), UNKNOWN);
        refused("sours: not there", RefusalsTest::crowded, x -> x.sours(4), UNKNOWN);
        refused("value: not there, d", RefusalsTest::crowded, x -> x.value(4, 100), UNKNOWN);
        refused("value: d that acid takes", RefusalsTest::crowded, x -> x.value(0, 100), OUTSIDE);
        bench.due("acid: d that value does not take", x -> { crowded(x); x.wall(0, true); }, x -> x.acid(0, 100), 0);
        refused("opening: not there, what", RefusalsTest::crowded, x -> x.opening(4, 2), UNKNOWN);
    }

    /** In the crowded town 0 to 3 are there: 15 is the set of all. */
    private static void plan() {
        refused("plan: 4 is not there", RefusalsTest::crowded, x -> x.plan(31, 0, -1), OUTSIDE);
        refused("plan: 4 is not there, and asked of 4", RefusalsTest::crowded, x -> x.plan(16, 0, 4), OUTSIDE);
        refused("plan: 4 is not there, and asked of 5", RefusalsTest::crowded, x -> x.plan(16, 0, 5), OUTSIDE);
        refused("plan: d, and asked of 5", RefusalsTest::crowded, x -> x.plan(15, 1000, 5), OUTSIDE);
        refused("plan: d, and asked of -2", RefusalsTest::crowded, x -> x.plan(15, -1, -2), OUTSIDE);
        refused("plan: more than 4, one not there", RefusalsTest::crowded, x -> x.plan(255, 0, -1), OUTSIDE);
        refused("plan: more than 4, not there, of 8", RefusalsTest::crowded, x -> x.plan(255, 0, 8), OUTSIDE);
        refused("plan: a negative set", RefusalsTest::crowded, x -> x.plan(-1, 0, -1), OUTSIDE);
        refused("plan: a set with a high bit", RefusalsTest::crowded, x -> x.plan(LEAST + 15, 0, -1), OUTSIDE);
        refused("plan: a set with bit 8", RefusalsTest::crowded, x -> x.plan(256 + 15, 0, -1), OUTSIDE);
        refused("plan: there, but not of the set", RefusalsTest::crowded, x -> x.plan(7, 0, 3), UNKNOWN);
        refused("plan: not there, not of the set", RefusalsTest::crowded, x -> x.plan(15, 0, 4), UNKNOWN);
        refused("plan: of none", RefusalsTest::crowded, x -> x.plan(0, 0, 0), UNKNOWN);
        refused("plan: -2", RefusalsTest::crowded, x -> x.plan(15, 0, -2), UNKNOWN);
        refused("plan: 32", RefusalsTest::crowded, x -> x.plan(15, 0, 32), UNKNOWN);
        bench.due("plan: four", RefusalsTest::crowded, x -> x.plan(15, 0, -1), 0);
    }

    private static void planFull() {
        Bench.Scene five = x -> { crowded(x); x.barrel(4, 2, 1, 0, 0); };
        refused("plan: five", five, x -> x.plan(31, 0, -1), FULL);
        refused("plan: five, of one of them", five, x -> x.plan(31, 0, 4), FULL);
        refused("plan: five, of one that is not", five, x -> x.plan(31, 0, 5), UNKNOWN);
        refused("plan: five, d", five, x -> x.plan(31, 1000, -1), OUTSIDE);
        refused("plan: five, d, of one that is not", five, x -> x.plan(31, 1000, 5), OUTSIDE);
        Bench.Scene sour = x -> { Bench.plain(x); x.set(0, 1); };
        refused("plan: five, by none", sour, x -> x.plan(31, 999, -1), FULL);
        bench.due("plan: four, by none", sour, x -> x.plan(15, 999, -1), NONE);
        refused("plan: by none, of one that is not", sour, x -> x.plan(15, 999, 4), UNKNOWN);
    }

    private static void poured() {
        refused("poured: not there", RefusalsTest::crowded, x -> x.poured(0, 4), UNKNOWN);
        refused("poured: not there, d", RefusalsTest::crowded, x -> x.poured(1000, 4), UNKNOWN);
        refused("poured: -2, d", RefusalsTest::crowded, x -> x.poured(-1, -2), UNKNOWN);
        refused("poured: d, of all", RefusalsTest::crowded, x -> x.poured(1000, -1), OUTSIDE);
        refused("poured: d, of one", RefusalsTest::crowded, x -> x.poured(-1, 3), OUTSIDE);
    }

    private static void fractions() {
        for (int part = 0; part < 2; part++) {
            int p = part;
            refused("likely: not there", RefusalsTest::crowded, x -> x.likely(4, 1, 1, p), GONE + UNKNOWN);
            refused("likely: not there, d", RefusalsTest::crowded, x -> x.likely(4, 11, 1, p), GONE + UNKNOWN);
            refused("likely: not there, c", RefusalsTest::crowded, x -> x.likely(4, 1, 11, p), GONE + UNKNOWN);
            refused("likely: d", RefusalsTest::crowded, x -> x.likely(0, 11, 1, p), GONE + OUTSIDE);
            refused("likely: c", RefusalsTest::crowded, x -> x.likely(0, 1, -1, p), GONE + OUTSIDE);
            refused("mean: d", RefusalsTest::crowded, x -> x.mean(11, 1, p), GONE + OUTSIDE);
            refused("mean: c", RefusalsTest::crowded, x -> x.mean(1, 11, p), GONE + OUTSIDE);
        }
        refused("likely: not there, part", RefusalsTest::crowded, x -> x.likely(4, 1, 1, 2), GONE + UNKNOWN);
        refused("likely: part", RefusalsTest::crowded, x -> x.likely(0, 1, 1, 2), GONE + OUTSIDE);
        refused("likely: all of them", RefusalsTest::crowded, x -> x.likely(LEAST, LEAST, LEAST, LEAST), GONE + UNKNOWN);
        refused("mean: part, no barrels", Bench::asAtFirst, x -> x.mean(0, 0, 2), GONE + OUTSIDE);
        refused("mean: all of them", RefusalsTest::crowded, x -> x.mean(MOST, MOST, MOST), GONE + OUTSIDE);
    }

    private static void seen() {
        Bench.Scene full = x -> { crowded(x); x.forget(); for (int i = 0; i < 6; i++) x.seen(0, i, i); };
        Bench.Scene nearly = x -> { crowded(x); x.forget(); for (int i = 0; i < 5; i++) x.seen(0, i, i); };
        refused("seen: not there, d", RefusalsTest::crowded, x -> x.seen(4, 31, 0), UNKNOWN);
        refused("seen: not there, v", RefusalsTest::crowded, x -> x.seen(4, 0, 100), UNKNOWN);
        refused("seen: not there, full", full, x -> x.seen(4, 0, 0), UNKNOWN);
        refused("seen: not there, d, full", full, x -> x.seen(8, -1, 0), UNKNOWN);
        refused("seen: d, full", full, x -> x.seen(0, 31, 0), OUTSIDE);
        refused("seen: v, full", full, x -> x.seen(0, 0, -1), OUTSIDE);
        refused("seen: full", full, x -> x.seen(0, 0, 0), FULL);
        bench.due("seen: the last that fits", nearly, x -> x.seen(0, 0, 0), 6);
        bench.due("seen: again, when forgotten", x -> { full.build(x); x.forget(); }, x -> x.seen(0, 0, 0), 1);
    }

    private static void shifts() {
        Bench.Scene thirteen = x -> { crowded(x); Bench.table(x, "0123456789012"); };
        refused("shifts: 13 digits", thirteen, x -> x.shifts(9, 1, 0), FULL);
        refused("shifts: 13 digits, none wanted", x -> Bench.table(x, "0000000000000"), x -> x.shifts(1, 1, 1), FULL);
        refused("shifts: 13 digits, t", thirteen, x -> x.shifts(10, 1, 0), OUTSIDE);
        refused("shifts: 13 digits, r", thirteen, x -> x.shifts(9, 0, 0), OUTSIDE);
        refused("shifts: 13 digits, what", thirteen, x -> x.shifts(9, 1, 2), OUTSIDE);
        refused("shifts: what, few digits", RefusalsTest::crowded, x -> x.shifts(9, 1, -1), OUTSIDE);
    }

    private static void imagesAndRestore() {
        Bench.Scene one = x -> { x.set(0, 7); x.image(1); x.set(0, 8); };
        refused("restore: no image 0", one, x -> x.restore(0), STATE);
        refused("restore: 2, never kept", one, x -> x.restore(2), OUTSIDE);
        refused("restore: -1, never kept", Bench::asAtFirst, x -> x.restore(-1), OUTSIDE);
        refused("restore: no image at all", Bench::asAtFirst, x -> x.restore(1), STATE);
        refused("image: 2", one, x -> x.image(2), OUTSIDE);
        bench.due("a refused image is not kept", x -> { x.image(2); x.image(-1); }, x -> x.restore(0), STATE);
        bench.due("restore: image 1", one, x -> x.restore(1), 1);
    }

    private static void quietAndWall() {
        refused("quiet: unknown", RefusalsTest::crowded, x -> x.quiet(6), UNKNOWN);
        refused("wall: unknown", RefusalsTest::crowded, x -> x.wall(6, true), UNKNOWN);
        refused("wall: unknown, false", RefusalsTest::crowded, x -> x.wall(-1, false), UNKNOWN);
    }

    /** A refused call is refused again, and what was due ahead of it is due behind it. */
    private static void refusedAgain() {
        CellarTides x = Bench.town(crowded("0d."));
        int lost = x.lost(30), work = x.judge(2), plan = x.plan(15, 3, -1), poured = x.poured(4, -1);
        for (int i = 0; i < 20; i++) {
            bench.due("again", x.barrel(4, 0, 1, 0, 0), FULL);
            bench.due("again", x.cellar(0, 1, 1), STATE);
            bench.due("again", x.table(), NO);
            bench.due("again", x.say(200), OUTSIDE);
            bench.due("again", x.drink(7), UNKNOWN);
        }
        bench.due("lost as ahead", x.lost(30), lost);
        bench.due("work as ahead", x.judge(2), work);
        bench.due("plan as ahead", x.plan(15, 3, -1), plan);
        bench.due("poured as ahead", x.poured(4, -1), poured);
    }

    /** Calls that only ask change nothing, when they are answered, either. */
    private static void questions() {
        Bench.Ask[] asks = {x -> x.fault(0), x -> x.fault(1), x -> x.level(999), x -> x.breath(1, 5), x -> x.judge(0), x -> x.judge(2),
            x -> x.behind(0, 0), x -> x.behind(0, 1), x -> x.hands(), x -> x.acid(3, 40), x -> x.sours(3), x -> x.lost(50),
            x -> x.plan(15, 5, -1), x -> x.plan(240, 5, 7), x -> x.value(2, 10), x -> x.opening(2, 0), x -> x.opening(2, 1),
            x -> x.banquet(0), x -> x.banquet(1), x -> x.poured(9, -1), x -> x.poured(9, 3), x -> x.likely(0, 10, 5, 0),
            x -> x.mean(10, 5, 1), x -> x.walls(), x -> x.moons(), x -> x.open(0), x -> x.open(1), x -> x.shifts(5, 3, 0),
            x -> x.shifts(5, 3, 1), x -> x.drought(100), x -> x.quiet(1), x -> x.period(), x -> x.year(5, 99, 3, 0),
            x -> x.year(5, 99, 3, 1), x -> x.told(0), x -> x.told(803)};
        for (int i = 0; i < asks.length; i++) {
            bench.unchanged("question " + i, Bench::rich, asks[i]);
            bench.unchanged("question " + i + " of the first town", Bench::asAtFirst, asks[i]);
        }
        // what is supposed for one question (a wall, a phase, a door, a drought) is not so for the next
        for (int i = 0; i < asks.length; i++) {
            for (int j = 0; j < asks.length; j++) {
                CellarTides x = Bench.town(Bench::rich);
                asks[i].of(x);
                bench.due("question " + j + " behind question " + i, asks[j].of(x), asks[j].of(Bench.town(Bench::rich)));
            }
        }
    }

    /** Calls that set what is so already: they are taken, and all is as it was. */
    private static void changesOnlyWhatTheySay() {
        bench.unchanged("wall where one is", Bench::rich, x -> x.wall(4, true));
        bench.unchanged("no wall where none is", Bench::rich, x -> x.wall(1, false));
        bench.unchanged("sour as it is", Bench::rich, x -> x.set(0, 35));
        bench.unchanged("phase as it is", Bench::rich, x -> x.set(2, 4));
        bench.unchanged("depth as it is", Bench::rich, x -> x.cellar(5, 0, 8));
        bench.unchanged("room as it is", Bench::rich, x -> x.cellar(4, 1, 4));
        bench.unchanged("a barrel as it is", Bench::rich, x -> x.barrel(7, 0, 2, 2, 0));
        bench.unchanged("drunk and put again", Bench::rich, x -> { x.drink(7); return x.barrel(7, 0, 2, 2, 0); });
        bench.unchanged("wiped and said again", Bench::rich, x -> { x.wipe(); Bench.say(x, "0c.6d.7e.."); return 0; });
    }
}
