/** What goes on over the table's end: days, phases, keepers' rows, rows of quiet days. */
public final class WrapsTest {
    private static final Bench bench = new Bench("over the end");
    private static final int NONE = Bench.NONE;
    private static CellarTides x;

    private static void due(String what, long got, long want) { bench.due(what, got, want); }

    private static void begin(String digits) {
        x = new CellarTides();
        Bench.table(x, digits);
    }

    public static void main(String[] args) {
        levels(); phases(); longTables(); breaths(); acids(); souring(); moves(); plansAndPouring(); values(); banquets();
        doors(); moons(); open(); walls(); shifts(); shiftsAsLong(); droughts(); quiet(); quietByPhase(); periods(); years();
        bench.end();
    }

    /** Day d has the digit at place d left over by how many there are. */
    private static void levels() {
        String digits = "314159265358979323846264338327";
        for (int length = 1; length <= 30; length++) {
            begin(digits.substring(0, length));
            int[] days = {0, length - 1, length, length + 1, 2 * length - 1, 2 * length, 999};
            for (int day : days) due("day " + day + " of " + length, x.level(day), digits.charAt(day % length) - '0');
        }
    }

    /** The phase comes to the day ahead of what is left over, also where it is above the length. */
    private static void phases() {
        String digits = "314159265358979323846264338327";
        for (int length = 1; length <= 30; length++) {
            for (int phase = 0; phase < 30; phase++) {
                begin(digits.substring(0, length));
                x.set(2, phase);
                for (int day : new int[] {0, 1, length - 1, length, 999})
                    due("day " + day + " of " + length + ", phase " + phase, x.level(day), digits.charAt((day + phase) % length) - '0');
            }
        }
    }

    private static void longTables() {
        begin("000000000000000000000000000009");
        due("the last day", x.level(29), 9);
        due("the first again", x.level(30), 0);
        due("the last of all", x.level(989), 9);
        x.set(2, 29);
        due("by phase 29: the first", x.level(0), 9);
        due("by phase 29: the second", x.level(1), 0);
        due("by phase 29: the 31st", x.level(30), 9);
        x.set(2, 0);
        Bench.table(x, "90");
        x.set(2, 29);
        due("a shorter table, the same phase", x.level(0), 0);
        due("day 999", x.level(999), 9);
    }

    private static void breaths() {
        begin("29");
        due("the first", x.breath(1, 0), 1);
        due("the second", x.breath(1, 1), 8);
        due("over the end", x.breath(1, 2), 1);
        due("day 999", x.breath(1, 999), 8);
        x.set(2, 1);
        due("day 999 by phase 1", x.breath(1, 999), 1);
        x.set(2, 28);
        due("day 999 by phase 28", x.breath(1, 999), 8);
    }

    private static void acids() {
        begin("102");
        x.barrel(0, 0, 1, 0, 0);
        int[] due = {0, 1, 1, 3, 4, 4, 6, 7, 7, 9};
        for (int d = 0; d < due.length; d++) due("behind " + d, x.acid(0, d), due[d]);
        x.set(2, 2);
        int[] later = {0, 2, 3, 3, 5, 6, 6, 8};
        for (int d = 0; d < later.length; d++) due("behind " + d + " by phase 2", x.acid(0, d), later[d]);
        x.set(2, 5);
        for (int d = 0; d < later.length; d++) due("behind " + d + " by phase 5", x.acid(0, d), later[d]);
        x.set(2, 29);
        for (int d = 0; d < later.length; d++) due("behind " + d + " by phase 29", x.acid(0, d), later[d]);
        due("behind 97", x.acid(0, 97), 98);
        due("behind 98", x.acid(0, 98), 99);
    }

    private static void souring() {
        begin("000004");
        x.barrel(3, 0, 5, 0, 0);
        due("five times around", x.sours(3), 30);
        due("not yet", x.lost(29), 0);
        due("lost", x.lost(30), 5);
        x.set(2, 5);
        due("by phase 5", x.sours(3), 25);
        x.set(2, 6);
        due("by phase 6 as by 0", x.sours(3), 30);
        x.set(2, 29);
        due("by phase 29 as by 5", x.sours(3), 25);
        due("not yet", x.lost(24), 0);
        due("lost", x.lost(25), 5);
    }

    private static void moves() {
        begin("013");
        x.barrel(0, 0, 1, 0, 0);
        Bench.pad(x, "....");
        due("four days of three", x.behind(0, 1), 4);
        Bench.pad(x, ".....");
        due("five", x.behind(0, 1), 5);
        Bench.pad(x, "......");
        due("six", x.behind(0, 1), 8);
        Bench.pad(x, "...0b...0a.");
        due("below for one round: 4, then 2, then 0", x.behind(0, 1), 6);
        x.set(2, 2);
        due("by phase 2: 4, then 2, then 3", x.behind(0, 1), 9);
        due("days", x.judge(3), 7);
        Bench.pad(x, ".".repeat(60));
        due("twenty rounds", x.behind(0, 1), 80);
        begin("100000000000000000000000000000");
        x.barrel(0, 0, 1, 0, 0);
        Bench.pad(x, ".".repeat(30) + "0b" + ".".repeat(28));
        due("one round of thirty", x.behind(0, 1), 1);
        Bench.pad(x, ".".repeat(30) + ".0b" + ".".repeat(27));
        due("the 31st day is as the first", x.behind(0, 1), 2);
    }

    private static void plansAndPouring() {
        begin("0003");
        x.barrel(0, 0, 2, 0, 0);
        x.barrel(1, 1, 2, 0, 0);
        // in a 3 a round, in b 2: behind 28 days 21 and 14, behind 40 days 30 and 20
        due("behind 27 days it stays", x.plan(1, 27, -1), 0);
        due("behind 28 days it goes to b", x.plan(1, 28, -1), 4);
        due("behind 39 days to b", x.plan(1, 39, 0), 1);
        due("behind 40 days to c", x.plan(1, 40, 0), 2);
        due("behind 28: both together", x.poured(28, -1), 4);
        due("behind 28: with 1", x.poured(28, 0), 1);
        due("behind 27: itself", x.poured(27, 0), 0);
        due("behind 40: none", x.poured(40, -1), 0);
        x.set(2, 3);
        due("by phase 3 it goes a day before", x.plan(1, 25, -1), 4);
        due("and stays behind 24", x.plan(1, 24, -1), 0);
        due("poured behind 25 by phase 3", x.poured(25, 0), 1);
    }

    private static void values() {
        begin("00001");
        x.barrel(0, 0, 1, 0, 1);
        x.set(4, 12);
        due("behind 5 days", x.value(0, 5), 50 - 7 - 1);
        due("behind 9 days", x.value(0, 9), 50 - 3 - 1);
        due("behind 10 days", x.value(0, 10), 50 - 2 - 2);
        due("at the peak", x.value(0, 12), 50 - 2);
        due("behind 15 days", x.value(0, 15), 50 - 3 - 3);
        x.set(4, 99);
        due("behind 95 days", x.value(0, 95), 50 - 4 - 19);
        due("behind 99 days", x.value(0, 99), 50 - 19);
        due("the best day is the last", x.opening(0, 0), 99);
        x.set(2, 4);
        due("by phase 4 it is vinegar then", x.value(0, 99), 0);
        due("by phase 4 the day ahead of that", x.opening(0, 0), 95);
        due("its value", x.opening(0, 1), 50 - 4 - 19);
    }

    private static void banquets() {
        begin("09");
        x.barrel(0, 0, 1, 0, 0);
        x.barrel(1, 0, 2, 9, 0);
        // barrel 0 has 9 more behind each second day, and is vinegar behind 6; barrel 1 never
        due("the peak", x.banquet(0), 20);
        x.barrel(0, 0, 9, 0, 0);
        due("ahead of the first breath", x.banquet(0), 1);
        due("its value", x.banquet(1), 9 * 31 + 2 * 31);
        x.set(2, 1);
        due("by phase 1 it is the first day", x.banquet(0), 0);
        due("its value", x.banquet(1), 9 * 30 + 2 * 30);
    }

    private static void doors() {
        begin("009");
        x.barrel(0, 0, 1, 9, 0);
        x.set(0, 1);
        // only a door on a day of level 9 is felt: days 2, 5 and 8
        int[] felt = {0, 0, 0, 1, 1, 1, 2, 2, 2, 3, 3};
        for (int d = 0; d <= 10; d++) {
            due("likely behind " + d, x.likely(0, d, 5, 0), (1 << felt[d]) - 1);
            due("likely behind " + d + ", of", x.likely(0, d, 5, 1), 1 << felt[d]);
            due("mean behind " + d, x.mean(d, 5, 0), (1 << felt[d]) - 1);
        }
        x.set(2, 2);
        due("by phase 2, one day", x.likely(0, 1, 5, 1), 2);
        due("by phase 2, ten days", x.likely(0, 10, 5, 1), 16);
        x.set(2, 29);
        due("by phase 29, ten days", x.likely(0, 10, 5, 1), 16);
    }

    private static void moons() {
        begin("0000000001");
        x.barrel(0, 0, 1, 0, 0);
        x.seen(0, 3, 1);
        due("places 7, 8, 9 begin so", x.moons(), 1 << 7 | 1 << 8 | 1 << 9);
        x.forget();
        x.seen(0, 30, 3);
        due("three rounds: all", x.moons(), 1023);
        x.seen(0, 11, 2);
        due("11 days with two: the last place", x.moons(), 512);
        begin("300000000000000000000000000000");
        x.barrel(0, 0, 1, 0, 0);
        x.seen(0, 1, 0);
        due("all but the first", x.moons(), (1 << 30) - 2);
        x.seen(0, 2, 3);
        due("the last goes on at the first", x.moons(), 1 << 29);
        x.set(2, 7);
        due("whichever phase it is now", x.moons(), 1 << 29);
    }

    private static void open() {
        begin("09");
        x.barrel(0, 0, 1, 9, 0);
        // only on odd days a door is felt
        x.seen(0, 30, 1);
        due("fifteen odd days", x.open(0), 15);
        due("the first", x.open(1), 1);
        x.seen(0, 28, 0);
        due("the last round", x.open(0), 1);
        due("day 29", x.open(1), 29);
        x.set(2, 1);
        due("by phase 1", x.open(1), 28);
        x.set(2, 29);
        due("by phase 29", x.open(1), 28);
    }

    private static void walls() {
        begin("005");
        x.barrel(0, 2, 1, 0, 0);
        x.seen(0, 7, 6);
        due("two rounds of 3", x.walls(), 64 + 1 + 2);
        x.set(2, 2);
        due("by phase 2 three breaths", x.walls(), 0);
        x.forget();
        x.seen(0, 7, 9);
        due("by phase 2", x.walls(), 64 + 1 + 2);
    }

    private static void shifts() {
        begin("100001");
        due("over the end: one", x.shifts(1, 2, 0), 1);
        due("begins on the last", x.shifts(1, 2, 1), 32);
        due("a row of 3: the last but one", x.shifts(1, 3, 1), 16);
        due("a row of 1: both", x.shifts(1, 1, 1), 33);
        due("a row of 5: the third", x.shifts(1, 5, 1), 4);
        due("a row of 6: all days", x.shifts(1, 6, 1), 1);
        begin("110011");
        due("four days over the end", x.shifts(1, 4, 0), 1);
        due("begin on day 4", x.shifts(1, 4, 1), 16);
        due("a row of 3: two", x.shifts(1, 3, 0), 2);
        due("a row of 3: 4 days and one more: 0 and 3", x.shifts(1, 3, 1), 1 + 8);
        due("the phase is not of the table", phase(3, () -> x.shifts(1, 4, 1)), 16);
        begin("100000000011");
        due("twelve digits: 10, 11, 0", x.shifts(1, 3, 1), 1 << 10);
    }

    private interface Answer { int get(); }

    private static int phase(int phase, Answer answer) {
        x.set(2, phase);
        return answer.get();
    }

    /** A row as long as the table or longer wakes on each day once. */
    private static void shiftsAsLong() {
        for (int length = 1; length <= 12; length++) {
            begin("4".repeat(length));
            for (int r : new int[] {length, length + 1, 2 * length, 29, 30}) {
                if (r < length || r > 30) continue;
                due(r + " in a row of " + length, x.shifts(4, r, 0), 1);
                due(r + " in a row of " + length + ": begin", x.shifts(4, r, 1), 1);
                due("none wanted", x.shifts(5, r, 0), 0);
            }
            if (length > 1) due("one day less", x.shifts(4, length - 1, 0), 2);
            if (length > 1) due("one day less: begin", x.shifts(4, length - 1, 1), 3);
        }
    }

    private static void droughts() {
        begin("04");
        x.barrel(0, 0, 1, 0, 0);
        due("behind 9", x.drought(9), 0);
        due("behind 10", x.drought(10), 1);
        due("behind 13: six of 3", x.drought(13), 1);
        due("behind 14: seven of 3", x.drought(14), 2);
        due("behind 20: ten of 2", x.drought(20), 3);
        due("behind 40: twenty of 1", x.drought(40), 4);
        x.set(2, 1);
        due("behind 9 by phase 1", x.drought(9), 1);
    }

    private static void quiet() {
        begin("00100");
        due("two and two over the end", x.quiet(0), 4);
        begin("0001");
        due("the end breathes", x.quiet(0), 3);
        begin("1000");
        due("the beginning breathes", x.quiet(0), 3);
        begin("0010110000");
        due("four and two over the end", x.quiet(0), 6);
        begin("1001");
        due("both breathe", x.quiet(0), 2);
        begin("0");
        due("one quiet day: all", x.quiet(0), NONE);
        begin("1");
        due("one day with breath", x.quiet(0), 0);
        due("of 1 deep: all", x.quiet(1), NONE);
        begin("000000000000000000000000000001");
        due("29 of thirty", x.quiet(0), 29);
        due("thirty of thirty", x.quiet(1), NONE);
        begin("000000000000001000000000000000");
        due("29 over the end", x.quiet(0), 29);
    }

    private static void quietByPhase() {
        for (int phase = 0; phase < 30; phase++) {
            begin("001001");
            x.set(2, phase);
            due("rows of two, phase " + phase, x.quiet(0), 2);
            Bench.table(x, "0100100");
            due("two and one over the end, phase " + phase, x.quiet(0), 3);
        }
    }

    private static void periods() {
        String[] tables = {"1", "11", "12", "121", "1212", "12121", "112112", "121121", "1221", "000001000001",
            "123456789012345678901234567890", "111111111111111111111111111111", "111111111111111111111111111112",
            "010101010101010101010101010101", "0123401234012340123401234", "012345678901234012345678901234"};
        int[] due = {1, 1, 2, 3, 2, 5, 3, 3, 4, 6, 10, 1, 30, 2, 5, 15};
        for (int i = 0; i < tables.length; i++) {
            begin(tables[i]);
            due("period of " + tables[i], x.period(), due[i]);
            x.set(2, 1);
            due("period of " + tables[i] + " by phase 1", x.period(), due[i]);
        }
    }

    private static void years() {
        begin("0000000001");
        x.barrel(0, 0, 3, 0, 0);
        // c of 99 from seed 0: on the first days 74, 5624, 28652, 51790 no door is open
        x.set(0, 1);
        due("three days", x.year(0, 3, 99, 0), 0);
        x.set(2, 9);
        due("by phase 9", x.year(0, 1, 99, 0), 3);
        x.set(2, 19);
        due("by phase 19", x.year(0, 1, 99, 0), 3);
        x.set(2, 8);
        due("by phase 8, one day", x.year(0, 1, 99, 0), 0);
        due("by phase 8, two days", x.year(0, 2, 99, 0), 3);
        // all doors open: each day 1 and each tenth 2, on 999 days up to 99
        x.set(2, 0);
        x.set(0, 99);
        due("89 days: 89 and 8", x.year(0, 89, 1, 0), 0);
        due("90 days: 90 and 9", x.year(0, 90, 1, 0), 3);
        due("999 days", x.year(0, 999, 1, 0), 3);
    }
}
