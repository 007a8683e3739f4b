/**
 * Tides of the cellar: a wine town on chalk whose cellars breathe by the moon.
 *
 * Every row that a call needs is made once, with the object: a run of many calls then makes
 * next to nothing anew. Words in the comments are those of the document.
 */
public final class CellarTides {
    public static final int UNKNOWN = -1, OUTSIDE = -2, STATE = -3, FULL = -4, NO = -5, NONE = -6;
    public static final long GONE = -1000000000000000000L;

    private static final int MOST_CELLARS = 6;
    private static final int MOST_BARRELS = 8;
    private static final int EVERY_BARREL = (1 << MOST_BARRELS) - 1;
    private static final int MOST_SIGNS = 60;
    private static final int MOST_DIGITS = 30;
    private static final int MOST_SIGHTS = 6;
    private static final int MOST_ACID = 99;
    private static final int MOST_PLANNED = 4;
    private static final int MOST_SHIFT_DIGITS = 12;
    private static final int IMAGES = 2;
    /** More than all moves of a full pad can want together. */
    private static final int HANDS_FOR_ALL = 1000000;

    private static final int LAST_DAY = 999;
    private static final int LAST_OPENING = 99;
    private static final int LAST_DOOR_DAY = 10;
    private static final int LAST_SIGHT_DAY = 30;

    private static final int SOUR = 0, HANDS = 1, PHASE = 2, FIRST_PEAK = 3;
    private static final int KINDS = 4;
    private static final int[] FIRST_SETTINGS = {20, 20, 0, 20, 20, 20, 20};
    private static final int[] LEAST_SETTINGS = {1, 0, 0, 0, 0, 0, 0};
    private static final int[] MOST_SETTINGS = {99, 99, 29, 99, 99, 99, 99};

    private static final int NO_WALL_BIT = 64;
    private static final int NO_DAY = -1;
    private static final int ALL_BARRELS = -1;

    private final Town town = new Town();
    private final Town[] images = new Town[IMAGES];
    private final Pad pad = new Pad();
    private final Air air = new Air(town);
    private final Course course = new Course(town, air);
    private final Planner planner = new Planner(town, air);
    private final Pouring pouring = new Pouring(town, air);
    private final Odds odds = new Odds(town, air);
    private final int[] reach = new int[MOST_SHIFT_DIGITS];

    public CellarTides() {
    }

    // ---- 1 cellars, tides, barrels

    public int cellars(int n) {
        if (!within(n, 1, MOST_CELLARS)) {
            return OUTSIDE;
        }
        int was = town.vault.count;
        town.vault.dig(n);
        town.stock.there = 0;
        town.sights.count = 0;
        return was;
    }

    public int cellar(int cellar, int what, int v) {
        if (!town.vault.has(cellar)) {
            return UNKNOWN;
        }
        if (what == 0) {
            return changeDepth(cellar, v);
        }
        return what == 1 ? changeRoom(cellar, v) : OUTSIDE;
    }

    private int changeDepth(int cellar, int v) {
        if (!within(v, 0, 8)) {
            return OUTSIDE;
        }
        int was = town.vault.depth[cellar];
        town.vault.depth[cellar] = v;
        return was;
    }

    private int changeRoom(int cellar, int v) {
        if (!within(v, 1, 8)) {
            return OUTSIDE;
        }
        if (town.stock.countIn(cellar, 0) > v) {
            return STATE;
        }
        int was = town.vault.room[cellar];
        town.vault.room[cellar] = v;
        return was;
    }

    public int wall(int cellar, boolean wall) {
        if (!town.vault.has(cellar)) {
            return UNKNOWN;
        }
        int bit = 1 << cellar;
        town.vault.walled = wall ? town.vault.walled | bit : town.vault.walled & ~bit;
        return 1;
    }

    public int barrel(int barrel, int cellar, int size, int cork, int kind) {
        if (!within(barrel, 0, MOST_BARRELS - 1) || !town.vault.has(cellar)) {
            return UNKNOWN;
        }
        if (!within(size, 1, 9) || !within(cork, 0, 9) || !within(kind, 0, KINDS - 1)) {
            return OUTSIDE;
        }
        if (town.stock.countIn(cellar, 1 << barrel) >= town.vault.room[cellar]) {
            return FULL;
        }
        town.stock.put(barrel, cellar, size, cork, kind);
        return Integer.bitCount(town.stock.there);
    }

    public int drink(int barrel) {
        if (!town.stock.has(barrel)) {
            return UNKNOWN;
        }
        town.stock.there &= ~(1 << barrel);
        return Integer.bitCount(town.stock.there);
    }

    public int set(int which, int v) {
        if (!within(which, 0, town.settings.length - 1)) {
            return OUTSIDE;
        }
        if (!within(v, LEAST_SETTINGS[which], MOST_SETTINGS[which])) {
            return OUTSIDE;
        }
        int was = town.settings[which];
        town.settings[which] = v;
        return was;
    }

    public int say(int sign) {
        if (!within(sign, 33, 126)) {
            return OUTSIDE;
        }
        if (pad.count >= MOST_SIGNS) {
            return FULL;
        }
        pad.signs[pad.count] = sign;
        pad.count++;
        return pad.count;
    }

    public int wipe() {
        int were = pad.count;
        pad.count = 0;
        return were;
    }

    public int fault(int how) {
        if (how == 0) {
            return pad.faultAsTable();
        }
        return how == 1 ? pad.faultAsMoves(town.vault.count) : OUTSIDE;
    }

    public int table() {
        if (pad.faultAsTable() != NONE) {
            return NO;
        }
        town.tide.readFrom(pad);
        pad.count = 0;
        return town.tide.length;
    }

    // ---- 2 days

    public int level(int day) {
        if (!within(day, 0, LAST_DAY)) {
            return OUTSIDE;
        }
        air.asItIs();
        return air.levelOn(day);
    }

    public int breath(int cellar, int day) {
        if (!town.vault.has(cellar)) {
            return UNKNOWN;
        }
        if (!within(day, 0, LAST_DAY)) {
            return OUTSIDE;
        }
        air.asItIs();
        return air.breathIn(cellar, air.levelOn(day));
    }

    public int judge(int what) {
        if (!within(what, 0, 3)) {
            return OUTSIDE;
        }
        if (!followPad(town.settings[HANDS])) {
            return NO;
        }
        boolean stuck = course.why != 0;
        switch (what) {
            case 0:
                return stuck ? course.part : NONE;
            case 1:
                return stuck ? course.why : NONE;
            case 2:
                return stuck ? STATE : course.work;
            default:
                return stuck ? STATE : course.day;
        }
    }

    public int behind(int barrel, int what) {
        if (!town.stock.has(barrel)) {
            return UNKNOWN;
        }
        if (!within(what, 0, 1)) {
            return OUTSIDE;
        }
        if (!followPad(town.settings[HANDS])) {
            return NO;
        }
        if (course.why != 0) {
            return STATE;
        }
        return what == 0 ? course.lies[barrel] : course.acid[barrel];
    }

    public int hands() {
        if (!followPad(HANDS_FOR_ALL)) {
            return NO;
        }
        return course.why != 0 ? NONE : course.mostDayWork;
    }

    /** False, if the pad has a fault as moves: then nothing was followed. */
    private boolean followPad(int hands) {
        if (pad.faultAsMoves(town.vault.count) != NONE) {
            return false;
        }
        air.asItIs();
        course.follow(pad, hands);
        return true;
    }

    public int acid(int barrel, int d) {
        if (!town.stock.has(barrel)) {
            return UNKNOWN;
        }
        if (!within(d, 0, LAST_DAY)) {
            return OUTSIDE;
        }
        air.asItIs();
        return air.acidOf(barrel, d);
    }

    public int sours(int barrel) {
        if (!town.stock.has(barrel)) {
            return UNKNOWN;
        }
        air.asItIs();
        int cellar = town.stock.lies[barrel];
        int cork = town.stock.cork[barrel];
        int risen = 0;
        for (int day = 0; day < LAST_DAY; day++) {
            risen += air.riseAt(air.levelOn(day), cellar, cork);
            if (town.isVinegar(risen)) {
                return day + 1;
            }
        }
        return NONE;
    }

    public int lost(int d) {
        if (!within(d, 0, LAST_DAY)) {
            return OUTSIDE;
        }
        air.asItIs();
        return lostBehind(d);
    }

    private int lostBehind(int days) {
        int together = 0;
        for (int b = 0; b < MOST_BARRELS; b++) {
            if (town.stock.has(b) && town.isVinegar(air.acidOf(b, days))) {
                together += town.stock.size[b];
            }
        }
        return together;
    }

    // ---- 3 plans, openings, pouring

    public int plan(int set, int d, int barrel) {
        if (!town.stock.hasAll(set) || !within(d, 0, LAST_DAY)) {
            return OUTSIDE;
        }
        if (barrel != ALL_BARRELS && !hasBit(set, barrel)) {
            return UNKNOWN;
        }
        if (Integer.bitCount(set) > MOST_PLANNED) {
            return FULL;
        }
        air.asItIs();
        planner.choose(set, d);
        int work = planner.search();
        return barrel == ALL_BARRELS || work == NONE ? work : planner.cellarOf(barrel);
    }

    public int value(int barrel, int d) {
        if (!town.stock.has(barrel)) {
            return UNKNOWN;
        }
        if (!within(d, 0, LAST_OPENING)) {
            return OUTSIDE;
        }
        air.asItIs();
        return town.worth(barrel, d, air.acidOf(barrel, d));
    }

    public int opening(int barrel, int what) {
        if (!town.stock.has(barrel)) {
            return UNKNOWN;
        }
        if (!within(what, 0, 1)) {
            return OUTSIDE;
        }
        return bestDay(1 << barrel, what);
    }

    public int banquet(int what) {
        if (!within(what, 0, 1)) {
            return OUTSIDE;
        }
        return bestDay(town.stock.there, what);
    }

    /** The first day on which a set has most value together (what = 0), or that value (1). */
    private int bestDay(int set, int what) {
        air.asItIs();
        course.begin();
        int best = 0;
        int most = -1;
        for (int day = 0; day <= LAST_OPENING; day++) {
            int worth = course.worthOf(set);
            if (worth > most) {
                most = worth;
                best = day;
            }
            course.passDay(0);
        }
        return what == 0 ? best : most;
    }

    public int poured(int d, int barrel) {
        if (barrel != ALL_BARRELS && !town.stock.has(barrel)) {
            return UNKNOWN;
        }
        if (!within(d, 0, LAST_DAY)) {
            return OUTSIDE;
        }
        air.asItIs();
        int most = pouring.search(d);
        return barrel == ALL_BARRELS ? most : pouring.partnerOf(barrel);
    }

    // ---- 4 doors, sights, keepers

    public long likely(int barrel, int d, int c, int part) {
        if (!town.stock.has(barrel)) {
            return GONE + UNKNOWN;
        }
        if (!areDoors(d, c, part)) {
            return GONE + OUTSIDE;
        }
        air.asItIs();
        return inLowestTerms(odds.sourWays(barrel, d, c), odds.allWays(d), part);
    }

    public long mean(int d, int c, int part) {
        if (!areDoors(d, c, part)) {
            return GONE + OUTSIDE;
        }
        air.asItIs();
        long together = 0;
        for (int b = 0; b < MOST_BARRELS; b++) {
            if (town.stock.has(b)) {
                together += town.stock.size[b] * odds.sourWays(b, d, c);
            }
        }
        return inLowestTerms(together, odds.allWays(d), part);
    }

    private static boolean areDoors(int d, int c, int part) {
        return within(d, 0, LAST_DOOR_DAY) && within(c, 0, 10) && within(part, 0, 1);
    }

    public int seen(int barrel, int d, int v) {
        if (!town.stock.has(barrel)) {
            return UNKNOWN;
        }
        if (!within(d, 0, LAST_SIGHT_DAY) || !within(v, 0, MOST_ACID)) {
            return OUTSIDE;
        }
        if (town.sights.count >= MOST_SIGHTS) {
            return FULL;
        }
        town.sights.note(barrel, d, v);
        return town.sights.count;
    }

    public int forget() {
        int were = town.sights.count;
        town.sights.count = 0;
        return were;
    }

    public int walls() {
        air.asItIs();
        air.walled = 0;
        int bits = sightsHold() ? NO_WALL_BIT : 0;
        for (int k = 0; k < town.vault.count; k++) {
            air.walled = 1 << k;
            bits |= sightsHold() ? 1 << k : 0;
        }
        return bits;
    }

    public int moons() {
        air.asItIs();
        int bits = 0;
        for (int phase = 0; phase < town.tide.length; phase++) {
            air.phase = phase;
            bits |= sightsHold() ? 1 << phase : 0;
        }
        return bits;
    }

    public int open(int what) {
        if (!within(what, 0, 1)) {
            return OUTSIDE;
        }
        air.asItIs();
        int days = town.sights.latestDay();
        int first = NONE;
        int count = 0;
        for (int day = 0; day < days; day++) {
            air.openDay = day;
            if (sightsHold()) {
                first = count == 0 ? day : first;
                count++;
            }
        }
        return what == 0 ? count : first;
    }

    /** A sight of a barrel that is no longer there can not hold: nothing has that acid. */
    private boolean sightsHold() {
        Sights sights = town.sights;
        for (int i = 0; i < sights.count && i < MOST_SIGHTS; i++) {
            int barrel = sights.barrel[i];
            if (!town.stock.has(barrel) || air.acidOf(barrel, sights.days[i]) != sights.acid[i]) {
                return false;
            }
        }
        return true;
    }

    public int shifts(int t, int r, int what) {
        if (!within(t, 0, 9) || !within(r, 1, 30) || !within(what, 0, 1)) {
            return OUTSIDE;
        }
        if (town.tide.length > MOST_SHIFT_DIGITS) {
            return FULL;
        }
        fillReach(r);
        int begins = fewestBegins(town.tide.daysFrom(t));
        return what == 0 ? Integer.bitCount(begins) : begins;
    }

    /** For each day of the table, as bits: the days on which a keeper wakes who begins there. */
    private void fillReach(int r) {
        int length = town.tide.length;
        for (int begin = 0; begin < length && begin < MOST_SHIFT_DIGITS; begin++) {
            int days = 0;
            for (int i = 0; i < r && i < length; i++) {
                days |= 1 << ((begin + i) % length);
            }
            reach[begin] = days;
        }
    }

    private int fewestBegins(int wanted) {
        int all = 1 << Math.min(town.tide.length, MOST_SHIFT_DIGITS);
        int best = all - 1;
        // upwards, and only fewer replace: so the least bits of as few stay
        for (int begins = 0; begins < all; begins++) {
            boolean fewer = Integer.bitCount(begins) < Integer.bitCount(best);
            if (fewer && (wanted & ~wakingDays(begins)) == 0) {
                best = begins;
            }
        }
        return best;
    }

    private int wakingDays(int begins) {
        int days = 0;
        for (int begin = 0; begin < MOST_SHIFT_DIGITS; begin++) {
            days |= hasBit(begins, begin) ? reach[begin] : 0;
        }
        return days;
    }

    public int drought(int d) {
        if (!within(d, 0, LAST_DAY)) {
            return OUTSIDE;
        }
        air.asItIs();
        for (int less = 0; less < 9; less++) {
            air.less = less;
            if (lostBehind(d) == 0) {
                return less;
            }
        }
        // by 9 less every level is 0
        return 9;
    }

    public int quiet(int cellar) {
        if (!town.vault.has(cellar)) {
            return UNKNOWN;
        }
        air.asItIs();
        int length = town.tide.length;
        int most = 0;
        int row = 0;
        // twice around: a row may go on over the table's end
        for (int day = 0; day < 2 * length; day++) {
            row = air.breathIn(cellar, air.levelOn(day)) == 0 ? row + 1 : 0;
            most = Math.max(most, row);
        }
        return most >= length ? NONE : most;
    }

    public int period() {
        int length = town.tide.length;
        for (int first = 1; first < length; first++) {
            if (length % first == 0 && town.tide.repeats(first)) {
                return first;
            }
        }
        return length;
    }

    public int year(int seed, int m, int c, int what) {
        if (!within(seed, 0, 9999) || !within(m, 1, LAST_DAY) || !within(c, 1, 99) || !within(what, 0, 1)) {
            return OUTSIDE;
        }
        air.asItIs();
        course.begin();
        int x = seed;
        int opened = 0;
        for (int day = 0; day < m; day++) {
            x = (75 * x + 74) % 65537;
            int more = x % c == 0 ? 1 : 0;
            opened += more;
            course.passDay(more);
        }
        return what == 0 ? course.lostNow() : opened;
    }

    public int image(int n) {
        if (!within(n, 0, IMAGES - 1)) {
            return OUTSIDE;
        }
        if (images[n] == null) {
            images[n] = new Town();
        }
        images[n].copyFrom(town);
        return 1;
    }

    public int restore(int n) {
        if (!within(n, 0, IMAGES - 1)) {
            return OUTSIDE;
        }
        Town kept = images[n];
        if (kept == null) {
            return STATE;
        }
        town.copyFrom(kept);
        return 1;
    }

    public int told(int what) {
        if (what >= 100) {
            return toldOfBarrel(what / 100 - 1, what % 100);
        }
        if (within(what, 10, 39)) {
            return toldOfCellar(what / 10, what % 10);
        }
        if (within(what, 40, 40 + KINDS - 1)) {
            return town.settings[FIRST_PEAK + what - 40];
        }
        switch (what) {
            case 0:
                return pad.count;
            case 1:
                return town.vault.count;
            case 2:
                return town.stock.there;
            case 3:
                return town.settings[SOUR];
            case 4:
                return town.settings[HANDS];
            case 5:
                return town.settings[PHASE];
            case 6:
                return town.tide.length;
            case 7:
                return town.sights.count;
            default:
                return OUTSIDE;
        }
    }

    private int toldOfCellar(int tens, int cellar) {
        if (!town.vault.has(cellar)) {
            return OUTSIDE;
        }
        if (tens == 1) {
            return town.vault.depth[cellar];
        }
        if (tens == 2) {
            return town.vault.room[cellar];
        }
        return hasBit(town.vault.walled, cellar) ? 1 : 0;
    }

    private int toldOfBarrel(int barrel, int what) {
        if (!town.stock.has(barrel)) {
            return OUTSIDE;
        }
        switch (what) {
            case 0:
                return town.stock.lies[barrel];
            case 1:
                return town.stock.size[barrel];
            case 2:
                return town.stock.cork[barrel];
            case 3:
                return town.stock.kind[barrel];
            default:
                return OUTSIDE;
        }
    }

    // ---- what all use

    private static boolean within(int v, int least, int most) {
        return v >= least && v <= most;
    }

    private static boolean hasBit(int bits, int place) {
        return place >= 0 && place < 31 && (bits >> place & 1) == 1;
    }

    private static long inLowestTerms(long upper, long lower, int part) {
        long shared = greatestShared(upper, lower);
        long told = part == 0 ? upper : lower;
        return shared < 1 ? told : told / shared;
    }

    private static long greatestShared(long a, long b) {
        long greater = a;
        long less = b;
        // a long's remainders end within some ninety steps
        for (int step = 0; step < 200 && less != 0; step++) {
            long left = greater % less;
            greater = less;
            less = left;
        }
        return greater;
    }

    /** All that an image keeps: everything but the pad. */
    private static final class Town {
        final Vault vault = new Vault();
        final Stock stock = new Stock();
        final Tide tide = new Tide();
        final Sights sights = new Sights();
        final int[] settings = FIRST_SETTINGS.clone();

        boolean isVinegar(int acid) {
            return acid >= settings[SOUR];
        }

        /** The value of a barrel that is there, on a day, with an acid. */
        int worth(int barrel, int day, int acid) {
            int kind = stock.kind[barrel];
            if (isVinegar(acid) || !within(kind, 0, KINDS - 1)) {
                return 0;
            }
            int far = Math.abs(day - settings[FIRST_PEAK + kind]);
            return Math.max(0, stock.size[barrel] * (50 - far - acid));
        }

        /** The work of a move between cellars that are there. */
        int workOf(int barrel, int from, int to) {
            int far = Math.abs(vault.depth[from] - vault.depth[to]);
            return stock.size[barrel] * (far + 1);
        }

        void copyFrom(Town other) {
            vault.copyFrom(other.vault);
            stock.copyFrom(other.stock);
            tide.copyFrom(other.tide);
            sights.copyFrom(other.sights);
            System.arraycopy(other.settings, 0, settings, 0, settings.length);
        }
    }

    private static final class Vault {
        final int[] depth = new int[MOST_CELLARS];
        final int[] room = new int[MOST_CELLARS];
        int count;
        /** As bits. */
        int walled;

        Vault() {
            dig(3);
        }

        /** As at first. */
        void dig(int n) {
            count = n;
            walled = 0;
            for (int k = 0; k < MOST_CELLARS; k++) {
                depth[k] = k;
                room[k] = MOST_BARRELS;
            }
        }

        boolean has(int cellar) {
            return cellar >= 0 && cellar < count && cellar < MOST_CELLARS;
        }

        void copyFrom(Vault other) {
            count = other.count;
            walled = other.walled;
            System.arraycopy(other.depth, 0, depth, 0, MOST_CELLARS);
            System.arraycopy(other.room, 0, room, 0, MOST_CELLARS);
        }
    }

    private static final class Stock {
        final int[] lies = new int[MOST_BARRELS];
        final int[] size = new int[MOST_BARRELS];
        final int[] cork = new int[MOST_BARRELS];
        final int[] kind = new int[MOST_BARRELS];
        /** As bits. */
        int there;

        boolean has(int barrel) {
            return barrel >= 0 && barrel < MOST_BARRELS && hasBit(there, barrel);
        }

        boolean hasAll(int set) {
            return (set & ~there) == 0;
        }

        /** How many lie in a cellar, but for those of a set. */
        int countIn(int cellar, int but) {
            int count = 0;
            for (int b = 0; b < MOST_BARRELS; b++) {
                if (has(b) && !hasBit(but, b) && lies[b] == cellar) {
                    count++;
                }
            }
            return count;
        }

        void put(int barrel, int newCellar, int newSize, int newCork, int newKind) {
            if (!within(barrel, 0, MOST_BARRELS - 1)) {
                return;
            }
            there |= 1 << barrel;
            lies[barrel] = newCellar;
            size[barrel] = newSize;
            cork[barrel] = newCork;
            kind[barrel] = newKind;
        }

        void copyFrom(Stock other) {
            there = other.there;
            System.arraycopy(other.lies, 0, lies, 0, MOST_BARRELS);
            System.arraycopy(other.size, 0, size, 0, MOST_BARRELS);
            System.arraycopy(other.cork, 0, cork, 0, MOST_BARRELS);
            System.arraycopy(other.kind, 0, kind, 0, MOST_BARRELS);
        }
    }

    private static final class Tide {
        final int[] digits = new int[MOST_DIGITS];
        int length;

        Tide() {
            digits[1] = 5;
            length = 2;
        }

        int digitAt(int place) {
            if (place < 0 || length < 1 || length > MOST_DIGITS) {
                return 0;
            }
            return digits[place % length];
        }

        void readFrom(Pad pad) {
            length = Math.min(pad.count, MOST_DIGITS);
            for (int i = 0; i < length; i++) {
                digits[i] = pad.signs[i] - '0';
            }
        }

        /** Days of the table with a level or more, as bits: places, so the phase does not count. */
        int daysFrom(int level) {
            int days = 0;
            for (int i = 0; i < length; i++) {
                days |= digitAt(i) >= level ? 1 << i : 0;
            }
            return days;
        }

        boolean repeats(int first) {
            for (int i = first; i < length; i++) {
                if (digitAt(i) != digitAt(i - first)) {
                    return false;
                }
            }
            return true;
        }

        void copyFrom(Tide other) {
            length = other.length;
            System.arraycopy(other.digits, 0, digits, 0, MOST_DIGITS);
        }
    }

    private static final class Sights {
        final int[] barrel = new int[MOST_SIGHTS];
        final int[] days = new int[MOST_SIGHTS];
        final int[] acid = new int[MOST_SIGHTS];
        int count;

        void note(int newBarrel, int newDays, int newAcid) {
            if (!within(count, 0, MOST_SIGHTS - 1)) {
                return;
            }
            barrel[count] = newBarrel;
            days[count] = newDays;
            acid[count] = newAcid;
            count++;
        }

        int latestDay() {
            int latest = 0;
            for (int i = 0; i < count && i < MOST_SIGHTS; i++) {
                latest = Math.max(latest, days[i]);
            }
            return latest;
        }

        void copyFrom(Sights other) {
            count = other.count;
            System.arraycopy(other.barrel, 0, barrel, 0, MOST_SIGHTS);
            System.arraycopy(other.days, 0, days, 0, MOST_SIGHTS);
            System.arraycopy(other.acid, 0, acid, 0, MOST_SIGHTS);
        }
    }

    private static final class Pad {
        final int[] signs = new int[MOST_SIGNS];
        int count;

        int faultAsTable() {
            for (int at = 0; at < count && at < MOST_SIGNS; at++) {
                if (at >= MOST_DIGITS || !within(signs[at], '0', '9')) {
                    return at;
                }
            }
            return count == 0 ? 0 : NONE;
        }

        int faultAsMoves(int cellars) {
            boolean letterDue = false;
            for (int at = 0; at < count && at < MOST_SIGNS; at++) {
                int sign = signs[at];
                if (letterDue) {
                    if (!within(sign, 'a', 'a' + cellars - 1)) {
                        return at;
                    }
                    letterDue = false;
                } else if (isBarrel(sign)) {
                    letterDue = true;
                } else if (sign != '.') {
                    return at;
                }
            }
            return letterDue ? count : NONE;
        }

        boolean isBarrel(int sign) {
            return within(sign, '0', '0' + MOST_BARRELS - 1);
        }
    }

    /** How the cellars breathe: as it is, or with one thing supposed to be otherwise. */
    private static final class Air {
        final Town town;
        int phase;
        /** As bits. */
        int walled;
        /** The one day on which a door is open. */
        int openDay;
        /** By how much a drought lowers all levels. */
        int less;

        Air(Town town) {
            this.town = town;
        }

        void asItIs() {
            phase = town.settings[PHASE];
            walled = town.vault.walled;
            openDay = NO_DAY;
            less = 0;
        }

        /** The level with no door open. */
        int levelOn(int day) {
            return Math.max(0, town.tide.digitAt(day + phase) - less);
        }

        int breathIn(int cellar, int level) {
            if (!town.vault.has(cellar) || hasBit(walled, cellar)) {
                return 0;
            }
            return Math.max(0, level - town.vault.depth[cellar]);
        }

        int riseAt(int level, int cellar, int cork) {
            return Math.max(0, breathIn(cellar, level) - cork);
        }

        int acidOf(int barrel, int days) {
            if (!town.stock.has(barrel)) {
                return 0;
            }
            return acidBehind(days, town.stock.lies[barrel], town.stock.cork[barrel]);
        }

        /** Acid never falls, so the bound may wait for the sum: once around the table is enough. */
        int acidBehind(int days, int cellar, int cork) {
            int length = town.tide.length;
            int sum = 0;
            for (int day = 0; day < days && day < length; day++) {
                int times = (days - 1 - day) / length + 1;
                sum += times * riseAt(levelOn(day), cellar, cork);
            }
            if (within(openDay, 0, days - 1)) {
                int level = levelOn(openDay);
                sum += riseAt(level + 1, cellar, cork) - riseAt(level, cellar, cork);
            }
            return Math.min(MOST_ACID, sum);
        }
    }

    /** All barrels day by day, with the moves of a pad or without. */
    private static final class Course {
        final Town town;
        final Air air;
        final int[] lies = new int[MOST_BARRELS];
        final int[] acid = new int[MOST_BARRELS];
        final int[] held = new int[MOST_CELLARS];
        int day;
        int part;
        /** Why the move at part can not be; 0: all can be so far. */
        int why;
        int work;
        int dayWork;
        int mostDayWork;

        Course(Town town, Air air) {
            this.town = town;
            this.air = air;
        }

        void begin() {
            day = 0;
            for (int b = 0; b < MOST_BARRELS; b++) {
                lies[b] = town.stock.lies[b];
                acid[b] = 0;
            }
        }

        /** A day passes; by a door the level may be more. */
        void passDay(int more) {
            int level = air.levelOn(day) + more;
            for (int b = 0; b < MOST_BARRELS; b++) {
                if (town.stock.has(b)) {
                    int rise = air.riseAt(level, lies[b], town.stock.cork[b]);
                    acid[b] = Math.min(MOST_ACID, acid[b] + rise);
                }
            }
            day++;
        }

        int worthOf(int set) {
            int together = 0;
            for (int b = 0; b < MOST_BARRELS; b++) {
                if (town.stock.has(b) && hasBit(set, b)) {
                    together += town.worth(b, day, acid[b]);
                }
            }
            return together;
        }

        int lostNow() {
            int together = 0;
            for (int b = 0; b < MOST_BARRELS; b++) {
                if (town.stock.has(b) && town.isVinegar(acid[b])) {
                    together += town.stock.size[b];
                }
            }
            return together;
        }

        /** Follows a pad without fault, up to the first move that can not be. */
        void follow(Pad pad, int hands) {
            begin();
            beginMoves();
            int picked = 0;
            for (int at = 0; at < pad.count && at < MOST_SIGNS && why == 0; at++) {
                int sign = pad.signs[at];
                if (sign == '.') {
                    passDay(0);
                    dayWork = 0;
                    part++;
                } else if (pad.isBarrel(sign)) {
                    picked = sign - '0';
                } else {
                    move(picked, sign - 'a', hands);
                }
            }
        }

        private void beginMoves() {
            part = 0;
            why = 0;
            work = 0;
            dayWork = 0;
            mostDayWork = 0;
            for (int k = 0; k < MOST_CELLARS; k++) {
                held[k] = town.stock.countIn(k, 0);
            }
        }

        private void move(int barrel, int cellar, int hands) {
            why = whyNot(barrel, cellar, hands);
            if (why != 0) {
                return;
            }
            int effort = town.workOf(barrel, lies[barrel], cellar);
            work += effort;
            dayWork += effort;
            mostDayWork = Math.max(mostDayWork, dayWork);
            held[lies[barrel]]--;
            held[cellar]++;
            lies[barrel] = cellar;
            part++;
        }

        private int whyNot(int barrel, int cellar, int hands) {
            if (!town.stock.has(barrel) || !town.vault.has(lies[barrel])) {
                return 1;
            }
            if (lies[barrel] == cellar) {
                return 2;
            }
            if (!town.vault.has(cellar) || held[cellar] >= town.vault.room[cellar]) {
                return 3;
            }
            return dayWork + town.workOf(barrel, lies[barrel], cellar) > hands ? 4 : 0;
        }
    }

    /** Which barrels of a set to move where: all ways are tried, the first by cellars first. */
    private static final class Planner {
        final Town town;
        final Air air;
        final int[] chosen = new int[MOST_PLANNED];
        /** For each chosen barrel, as bits: the cellars where it stays wine. */
        final int[] safe = new int[MOST_PLANNED];
        final int[] goes = new int[MOST_PLANNED];
        final int[] best = new int[MOST_PLANNED];
        /** Room that the barrels which stay leave. */
        final int[] free = new int[MOST_CELLARS];
        int count;

        Planner(Town town, Air air) {
            this.town = town;
            this.air = air;
        }

        void choose(int set, int days) {
            count = 0;
            for (int b = 0; b < MOST_BARRELS && count < MOST_PLANNED; b++) {
                if (town.stock.has(b) && hasBit(set, b)) {
                    chosen[count] = b;
                    safe[count] = safeCellars(b, days);
                    count++;
                }
            }
            for (int k = 0; k < MOST_CELLARS; k++) {
                free[k] = town.vault.room[k] - town.stock.countIn(k, set);
            }
        }

        /** The least work for those chosen, or NONE. */
        int search() {
            int least = NONE;
            int ways = 1;
            for (int i = 0; i < count; i++) {
                ways *= town.vault.count;
            }
            for (int way = 0; way < ways; way++) {
                spread(way);
                int work = canBe() ? workOfAll() : NONE;
                if (work != NONE && (least == NONE || work < least)) {
                    least = work;
                    System.arraycopy(goes, 0, best, 0, MOST_PLANNED);
                }
            }
            return least;
        }

        int cellarOf(int barrel) {
            for (int i = 0; i < count; i++) {
                if (chosen[i] == barrel) {
                    return best[i];
                }
            }
            return UNKNOWN;
        }

        private int safeCellars(int barrel, int days) {
            int bits = 0;
            for (int k = 0; k < town.vault.count; k++) {
                boolean sour = town.isVinegar(air.acidBehind(days, k, town.stock.cork[barrel]));
                bits |= sour ? 0 : 1 << k;
            }
            return bits;
        }

        /** The way's number in as many digits as barrels: the least barrel's digit weighs most. */
        private void spread(int way) {
            int cellars = Math.max(1, town.vault.count);
            int left = way;
            for (int i = count - 1; i >= 0; i--) {
                goes[i] = left % cellars;
                left /= cellars;
            }
        }

        private boolean canBe() {
            for (int i = 0; i < count; i++) {
                int together = 0;
                for (int j = 0; j < count; j++) {
                    together += goes[j] == goes[i] ? 1 : 0;
                }
                if (!hasBit(safe[i], goes[i]) || together > free[goes[i]]) {
                    return false;
                }
            }
            return true;
        }

        private int workOfAll() {
            int work = 0;
            for (int i = 0; i < count; i++) {
                int from = town.stock.lies[chosen[i]];
                work += from == goes[i] ? 0 : town.workOf(chosen[i], from, goes[i]);
            }
            return work;
        }
    }

    /** What to pour together: for each set of barrels the most that is not vinegar. */
    private static final class Pouring {
        final Town town;
        final Air air;
        final int[] acid = new int[MOST_BARRELS];
        final int[] most = new int[EVERY_BARREL + 1];

        Pouring(Town town, Air air) {
            this.town = town;
            this.air = air;
        }

        int search(int days) {
            for (int b = 0; b < MOST_BARRELS; b++) {
                acid[b] = air.acidOf(b, days);
            }
            for (int set = 1; set <= EVERY_BARREL; set++) {
                if (town.stock.hasAll(set)) {
                    most[set] = mostOf(set);
                }
            }
            return most[town.stock.there & EVERY_BARREL];
        }

        /** Only the least barrel's partner is tried here: the rest is a lesser set. */
        private int mostOf(int set) {
            int least = leastOf(set);
            int best = 0;
            for (int other = least; other < MOST_BARRELS; other++) {
                if (hasBit(set, other)) {
                    best = Math.max(best, withPartner(set, least, other));
                }
            }
            return best;
        }

        private int withPartner(int set, int least, int other) {
            int rest = set & EVERY_BARREL & ~(1 << least) & ~(1 << other);
            return wineOf(least, other) + most[rest];
        }

        /** How much is not vinegar of two poured together, or of one that is its own partner. */
        private int wineOf(int one, int other) {
            int size = town.stock.size[one];
            if (one == other) {
                return town.isVinegar(acid[one]) ? 0 : size;
            }
            int both = size + town.stock.size[other];
            if (both < 1) {
                return 0;
            }
            int mixed = (size * acid[one] + town.stock.size[other] * acid[other]) / both;
            if (town.isVinegar(mixed)) {
                return 0;
            }
            return town.stock.kind[one] == town.stock.kind[other] ? both : both - 1;
        }

        /** The first by partners: each least barrel takes the first partner that loses nothing. */
        int partnerOf(int barrel) {
            int set = town.stock.there & EVERY_BARREL;
            for (int step = 0; step < MOST_BARRELS && set != 0; step++) {
                int least = leastOf(set);
                int partner = firstPartner(set, least);
                if (least == barrel) {
                    return partner;
                }
                if (partner == barrel) {
                    return least;
                }
                set = set & ~(1 << least) & ~(1 << partner);
            }
            return barrel;
        }

        private int firstPartner(int set, int least) {
            for (int other = least; other < MOST_BARRELS; other++) {
                if (hasBit(set, other) && withPartner(set, least, other) == most[set]) {
                    return other;
                }
            }
            return least;
        }

        private int leastOf(int set) {
            return Math.min(Integer.numberOfTrailingZeros(set), MOST_BARRELS - 1);
        }
    }

    /** Doors left open by chance, counted exactly: a day has ten ways, c of them with a door open. */
    private static final class Odds {
        final Town town;
        final Air air;
        /** In how many ways a barrel has each acid. */
        final long[] ways = new long[MOST_ACID + 1];
        final long[] next = new long[MOST_ACID + 1];

        Odds(Town town, Air air) {
            this.town = town;
            this.air = air;
        }

        long allWays(int days) {
            long all = 1;
            for (int day = 0; day < days; day++) {
                all *= 10;
            }
            return all;
        }

        long sourWays(int barrel, int days, int c) {
            if (!town.stock.has(barrel)) {
                return 0;
            }
            for (int a = 0; a <= MOST_ACID; a++) {
                ways[a] = a == 0 ? 1 : 0;
            }
            int cellar = town.stock.lies[barrel];
            int cork = town.stock.cork[barrel];
            for (int day = 0; day < days; day++) {
                int level = air.levelOn(day);
                passDay(air.riseAt(level, cellar, cork), air.riseAt(level + 1, cellar, cork), c);
            }
            long sour = 0;
            for (int a = 0; a <= MOST_ACID; a++) {
                sour += town.isVinegar(a) ? ways[a] : 0;
            }
            return sour;
        }

        private void passDay(int shutRise, int openRise, int c) {
            for (int a = 0; a <= MOST_ACID; a++) {
                next[a] = 0;
            }
            for (int a = 0; a <= MOST_ACID; a++) {
                if (ways[a] != 0) {
                    next[Math.min(MOST_ACID, a + shutRise)] += ways[a] * (10 - c);
                    next[Math.min(MOST_ACID, a + openRise)] += ways[a] * c;
                }
            }
            System.arraycopy(next, 0, ways, 0, MOST_ACID + 1);
        }
    }
}
