/** What is empty (barrels, signs, sights, sets, images) and what is full (room, pad, sights, sets, tables). */
public final class EmptyFullTest {
    private static final Bench bench = new Bench("empty and full");
    private static final int UNKNOWN = Bench.UNKNOWN, OUTSIDE = Bench.OUTSIDE, STATE = Bench.STATE, FULL = Bench.FULL,
        NO = Bench.NO, NONE = Bench.NONE;
    private static CellarTides x;

    private static void due(String what, long got, long want) { bench.due(what, got, want); }
    private static void begin() { x = new CellarTides(); }

    public static void main(String[] args) {
        noBarrels(); barrelsGone(); noBarrelsByNone(); noSigns(); wiped(); noSights(); sightsGone(); emptySets(); noImages();
        roomFull(); roomOfMoves(); roomOfPlans(); padFull(); sightsFull(); setsFull(); tablesFull(); imagesAgain(); manyCalls();
        bench.end();
    }

    private static void askNoBarrels(String when) {
        due(when + ": told", x.told(2), 0);
        for (int d : new int[] {0, 1, 999}) {
            due(when + ": lost", x.lost(d), 0);
            due(when + ": drought", x.drought(d), 0);
            due(when + ": poured", x.poured(d, -1), 0);
            due(when + ": plan", x.plan(0, d, -1), 0);
        }
        due(when + ": banquet's day", x.banquet(0), 0);
        due(when + ": banquet's value", x.banquet(1), 0);
        for (int c = 0; c <= 10; c += 5) {
            due(when + ": mean", x.mean(10, c, 0), 0);
            due(when + ": mean, of", x.mean(10, c, 1), 1);
        }
        due(when + ": year's loss", x.year(1, 999, 1, 0), 0);
        due(when + ": year's days", x.year(1, 999, 1, 1), 999);
        for (int b = 0; b < 8; b++) {
            due(when + ": drink", x.drink(b), UNKNOWN);
            due(when + ": acid", x.acid(b, 0), UNKNOWN);
            due(when + ": sours", x.sours(b), UNKNOWN);
            due(when + ": behind", x.behind(b, 0), UNKNOWN);
            due(when + ": value", x.value(b, 0), UNKNOWN);
            due(when + ": opening", x.opening(b, 0), UNKNOWN);
            due(when + ": poured with", x.poured(0, b), UNKNOWN);
            due(when + ": likely", x.likely(b, 0, 0, 0), Bench.GONE + UNKNOWN);
            due(when + ": seen", x.seen(b, 0, 0), UNKNOWN);
            due(when + ": plan of it", x.plan(1 << b, 0, b), OUTSIDE);
            for (int i = 0; i < 4; i++) due(when + ": told of it", x.told(100 * (1 + b) + i), OUTSIDE);
        }
    }

    private static void noBarrels() {
        begin();
        askNoBarrels("at first");
        begin();
        Bench.table(x, "9");
        x.set(0, 1);
        askNoBarrels("at level 9");
    }

    private static void barrelsGone() {
        begin();
        Bench.plain(x);
        for (int b = 0; b < 8; b++) due("drink", x.drink(b), 7 - b);
        askNoBarrels("when all were drunk");
        begin();
        Bench.plain(x);
        due("cellars again", x.cellars(6), 6);
        askNoBarrels("when cellars were dug anew");
    }

    /** One barrel more or less is what makes the difference. */
    private static void noBarrelsByNone() {
        begin();
        Bench.table(x, "9");
        x.set(0, 1);
        due("the first", x.barrel(5, 0, 7, 0, 0), 1);
        due("lost", x.lost(1), 7);
        due("lost behind 0 days", x.lost(0), 0);
        due("drought", x.drought(1), 9);
        due("mean", x.mean(1, 0, 0), 7);
        due("poured", x.poured(0, -1), 7);
        due("poured, vinegar", x.poured(1, -1), 0);
        due("poured, vinegar: itself", x.poured(1, 5), 5);
        due("year", x.year(0, 1, 99, 0), 7);
        due("banquet's day", x.banquet(0), 0);
        due("banquet's value", x.banquet(1), 7 * 30);
        due("the last", x.drink(5), 0);
        due("lost", x.lost(1), 0);
        due("banquet's value", x.banquet(1), 0);
    }

    private static void askNoSigns(String when) {
        due(when + ": told", x.told(0), 0);
        due(when + ": as a table a sign must come", x.fault(0), 0);
        due(when + ": as moves", x.fault(1), NONE);
        due(when + ": table", x.table(), NO);
        due(when + ": part", x.judge(0), NONE);
        due(when + ": why", x.judge(1), NONE);
        due(when + ": work", x.judge(2), 0);
        due(when + ": days", x.judge(3), 0);
        due(when + ": hands", x.hands(), 0);
        due(when + ": wipe", x.wipe(), 0);
    }

    private static void noSigns() {
        begin();
        askNoSigns("at first");
        Bench.plain(x);
        askNoSigns("behind table");
        x.set(1, 0);
        askNoSigns("without hands");
        for (int b = 0; b < 8; b++) {
            due("where it lies", x.behind(b, 0), b % 6);
            due("acid of day 0", x.behind(b, 1), 0);
        }
        due("one sign", x.say('.'), 1);
        due("one day", x.judge(3), 1);
        due("its acid", x.behind(0, 1), 9);
    }

    private static void wiped() {
        begin();
        Bench.say(x, "0a.zz");
        due("five", x.wipe(), 5);
        askNoSigns("when wiped");
        Bench.say(x, ".".repeat(60));
        due("full", x.say('.'), FULL);
        due("sixty", x.wipe(), 60);
        askNoSigns("when sixty were wiped");
        due("a first again", x.say('5'), 1);
        due("the old signs are gone", x.fault(0), NONE);
        due("a table of it alone", x.table(), 1);
        due("its level", x.level(7), 5);
    }

    private static void askNoSights(String when, int cellars, int digits) {
        due(when + ": told", x.told(7), 0);
        due(when + ": walls", x.walls(), 64 + (1 << cellars) - 1);
        due(when + ": moons", x.moons(), (1 << digits) - 1);
        due(when + ": open", x.open(0), 0);
        due(when + ": open, the first", x.open(1), NONE);
        due(when + ": forget", x.forget(), 0);
    }

    private static void noSights() {
        begin();
        askNoSights("at first", 3, 2);
        for (int n = 1; n <= 6; n++) {
            x.cellars(n);
            for (int k = 0; k < n; k++) x.wall(k, k % 2 == 0);
            askNoSights(n + " cellars, some with walls", n, 2);
        }
        for (int digits : new int[] {1, 2, 29, 30}) {
            begin();
            Bench.table(x, "3".repeat(digits));
            x.set(2, 29);
            askNoSights(digits + " digits", 3, digits);
        }
    }

    private static void sightsGone() {
        begin();
        Bench.plain(x);
        for (int i = 1; i <= 6; i++) due("sight", x.seen(0, i, 0), i);
        due("walls by six", x.walls(), 1);
        due("forget", x.forget(), 6);
        askNoSights("when forgotten", 6, 1);
        due("sight", x.seen(0, 1, 9), 1);
        due("walls by one", x.walls(), 126);
        x.cellars(2);
        askNoSights("when cellars were dug anew", 2, 1);
    }

    private static void emptySets() {
        begin();
        Bench.plain(x);
        x.set(0, 1);
        for (int d : new int[] {0, 1, 999}) due("no barrel of the set: no work", x.plan(0, d, -1), 0);
        for (int b = 0; b < 8; b++) due("no barrel is of the set", x.plan(0, 0, b), UNKNOWN);
        due("d of an empty set", x.plan(0, 1000, -1), OUTSIDE);
        due("one of the set: none", x.plan(1, 999, -1), NONE);
    }

    private static void noImages() {
        begin();
        due("no image 0", x.restore(0), STATE);
        due("no image 1", x.restore(1), STATE);
        due("kept", x.image(0), 1);
        due("still no image 1", x.restore(1), STATE);
        due("image 0", x.restore(0), 1);
        due("image 0 again", x.restore(0), 1);
        due("kept", x.image(1), 1);
        due("image 1", x.restore(1), 1);
        begin();
        due("another object has none", x.restore(0), STATE);
    }

    private static void roomFull() {
        for (int room = 1; room <= 8; room++) {
            begin();
            due("room", x.cellar(1, 1, room), 8);
            for (int b = 0; b < room; b++) due("barrel " + b + " of room " + room, x.barrel(7 - b, 1, 1, 0, 0), b + 1);
            for (int b = room; b < 8; b++) due("no room of " + room, x.barrel(7 - b, 1, 1, 0, 0), FULL);
            for (int b = 0; b < room; b++) due("otherwise, in the same room", x.barrel(7 - b, 1, 2, 1, 1), room);
            for (int b = room; b < 8; b++) due("elsewhere", x.barrel(7 - b, 2, 1, 0, 0), b + 1);
            if (room < 8) due("not from elsewhere", x.barrel(0, 1, 1, 0, 0), FULL);
            if (room > 1) due("not less than lie there", x.cellar(1, 1, room - 1), STATE);
            due("just as many", x.cellar(1, 1, room), room);
        }
    }

    private static void roomOfMoves() {
        begin();
        x.cellar(1, 1, 2);
        x.barrel(0, 1, 1, 0, 0);
        x.barrel(1, 0, 1, 0, 0);
        x.barrel(2, 0, 1, 0, 0);
        Bench.pad(x, "1b");
        due("the last place", x.judge(0), NONE);
        Bench.pad(x, "1b2b");
        due("no place: part", x.judge(0), 1);
        due("no place: why", x.judge(1), 3);
        due("no place: hands", x.hands(), NONE);
        Bench.pad(x, "1b0a2b");
        due("a place was left", x.judge(0), NONE);
        Bench.pad(x, "1b1a2b1b");
        due("full again: part", x.judge(0), 3);
        due("full again: why", x.judge(1), 3);
        Bench.pad(x, "1b.2b");
        due("a day leaves none", x.judge(0), 2);
        Bench.pad(x, "1b1b");
        due("it lies there, and there is no room", x.judge(1), 2);
        Bench.pad(x, "1b3b");
        due("it is not there, and there is no room", x.judge(1), 1);
        due("moves were not made", x.told(200), 0);
        for (int k = 0; k < 6; k++) roomOfMovesTo(k);
    }

    private static void roomOfMovesTo(int to) {
        begin();
        x.cellars(6);
        x.set(1, 99);
        char here = (char) ('a' + to), there = (char) ('a' + (to + 1) % 6);
        x.cellar(to, 1, 2);
        x.barrel(0, to, 1, 0, 0);
        x.barrel(1, (to + 1) % 6, 1, 0, 0);
        x.barrel(2, (to + 2) % 6, 1, 0, 0);
        Bench.say(x, "1" + here + "2" + here);
        due("two places of " + here + ", one taken: part", x.judge(0), 1);
        due("two places of " + here + ", one taken: why", x.judge(1), 3);
        Bench.pad(x, "0" + there + "1" + here + "2" + here);
        due("two places of " + here + ", one left", x.judge(0), NONE);
        Bench.pad(x, "1" + here + "2" + here);
        due("asked anew of " + here, x.judge(0), 1);
        x.cellar(to, 1, 3);
        due("three places of " + here, x.judge(0), NONE);
        x.barrel(3, to, 1, 0, 0);
        due("three places of " + here + ", two taken", x.judge(0), 1);
    }

    private static void roomOfPlans() {
        begin();
        Bench.table(x, "1");
        // in a all are vinegar behind 20 days, in b and c none
        for (int b = 0; b < 5; b++) x.barrel(b, 0, 1, 0, 0);
        x.cellar(1, 1, 2);
        x.cellar(2, 1, 2);
        due("four to two rooms of two", x.plan(15, 20, -1), 2 + 2 + 3 + 3);
        int[] first = {1, 1, 2, 2};
        for (int b = 0; b < 4; b++) due("the first by cellars", x.plan(15, 20, b), first[b]);
        x.barrel(4, 2, 1, 0, 0);
        due("another has a place", x.plan(15, 20, -1), NONE);
        due("three have", x.plan(7, 20, -1), 2 + 2 + 3);
        due("it may change its own", x.plan(16 + 7, 20, -1), 2 + 2 + 3);
        x.cellar(2, 1, 1);
        due("none left", x.plan(7, 20, -1), NONE);
        due("two have", x.plan(3, 20, -1), 2 + 2);
        due("none left, not needed", x.plan(15, 19, -1), 0);
    }

    private static void padFull() {
        begin();
        for (int i = 1; i <= 60; i++) due("sign", x.say(i % 2 == 1 ? '0' : 'a'), i);
        due("one more", x.say('.'), FULL);
        due("signs", x.told(0), 60);
        due("thirty moves", x.fault(1), NONE);
        due("as a table", x.fault(0), 1);
        begin();
        Bench.say(x, ".".repeat(59) + "3");
        due("a letter must come, and can not", x.fault(1), 60);
        due("no letter fits", x.say('a'), FULL);
        due("judge", x.judge(3), NO);
        begin();
        Bench.table(x, "1");
        x.barrel(0, 0, 1, 0, 0);
        Bench.say(x, ".".repeat(60));
        due("sixty days", x.judge(3), 60);
        due("acid of sixty days", x.behind(0, 1), 60);
        x.wipe();
        Bench.say(x, ".".repeat(58) + "0b");
        due("the last move", x.behind(0, 0), 1);
        x.set(1, 1);
        due("the last part", x.judge(0), 58);
        begin();
        Bench.say(x, "1".repeat(30));
        due("thirty", x.fault(0), NONE);
        Bench.say(x, "1".repeat(30));
        due("sixty", x.fault(0), 30);
        due("no table", x.table(), NO);
        due("sixty stay", x.told(0), 60);
    }

    private static void sightsFull() {
        begin();
        Bench.plain(x);
        for (int i = 1; i <= 6; i++) due("sight", x.seen(i, i, i), i);
        due("one more", x.seen(0, 0, 0), FULL);
        due("one more that stands already", x.seen(1, 1, 1), FULL);
        due("told", x.told(7), 6);
        due("forget", x.forget(), 6);
        for (int i = 1; i <= 6; i++) due("the same, six times", x.seen(0, 3, 27), i);
        due("full of the same", x.seen(0, 3, 27), FULL);
        due("no wall in a", x.walls(), 126);
        due("the sixth counts", x.forget(), 6);
        for (int i = 1; i <= 5; i++) x.seen(0, 3, 27);
        x.seen(0, 3, 28);
        due("the sixth does not hold", x.walls(), 0);
        due("nor by a moon", x.moons(), 0);
        due("nor by a door", x.open(0), 0);
    }

    private static void setsFull() {
        begin();
        Bench.plain(x);
        due("four least", x.plan(15, 0, -1), 0);
        due("four greatest", x.plan(240, 0, -1), 0);
        due("five", x.plan(31, 0, -1), FULL);
        due("five greatest", x.plan(248, 0, -1), FULL);
        due("all", x.plan(255, 0, -1), FULL);
        due("all, of 7", x.plan(255, 0, 7), FULL);
        x.drink(7);
        due("all that were", x.plan(255, 0, -1), OUTSIDE);
        due("all that are", x.plan(127, 0, -1), FULL);
        x.drink(6);
        x.drink(5);
        x.drink(4);
        due("four that are", x.plan(15, 0, -1), 0);
    }

    private static void tablesFull() {
        String thirty = "123456789012345678901234567890";
        begin();
        Bench.say(x, thirty);
        due("thirty digits", x.table(), 30);
        for (int day = 0; day < 30; day++) due("day " + day, x.level(day), (day + 1) % 10);
        due("thirty told", x.told(6), 30);
        due("shifts of thirty", x.shifts(0, 1, 0), FULL);
        Bench.say(x, thirty + "0");
        due("thirty-one", x.table(), NO);
        due("they stay", x.wipe(), 31);
        Bench.say(x, "000000000001");
        due("twelve", x.table(), 12);
        due("shifts of twelve", x.shifts(1, 1, 0), 1);
        due("begins on the last of twelve", x.shifts(1, 1, 1), 1 << 11);
        due("the least of those whose row reaches the last", x.shifts(1, 12, 1), 1);
        due("one less", x.shifts(1, 11, 1), 2);
        Bench.say(x, "0000000000001");
        due("thirteen", x.table(), 13);
        due("shifts of thirteen", x.shifts(1, 1, 0), FULL);
        Bench.say(x, "7");
        due("one", x.table(), 1);
        for (int day = 0; day < 31; day++) due("nothing is left of longer ones", x.level(day), 7);
        due("shifts of one", x.shifts(7, 30, 1), 1);
    }

    /** Image 0 and image 1 are all that there are; what is kept last in each counts. */
    private static void imagesAgain() {
        begin();
        for (int i = 1; i <= 30; i++) {
            x.set(0, i);
            due("kept", x.image(i % 2), 1);
        }
        due("no third", x.image(2), OUTSIDE);
        due("image 0", x.restore(0), 1);
        due("the last of 0", x.told(3), 30);
        due("image 1", x.restore(1), 1);
        due("the last of 1", x.told(3), 29);
    }

    /** An object is used for 512 calls: the last is answered as the first. */
    private static void manyCalls() {
        begin();
        Bench.plain(x);
        int made = 1 + 3 + 8;
        for (int i = made; i < 512; i++) due("call " + i, x.acid(0, 2), 18);
        begin();
        for (int i = 0; i < 512; i++) due("say " + i, x.say('.'), i < 60 ? i + 1 : FULL);
        begin();
        for (int i = 0; i < 256; i++) {
            due("keep " + i, x.image(i % 2), 1);
            due("restore " + i, x.restore(i % 2), 1);
        }
    }
}
