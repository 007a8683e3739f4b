import java.math.BigInteger;
import java.util.ArrayList;
import java.util.Arrays;
import java.util.List;

/**
 * The document told a second time, as slowly and plainly as can be: every day is walked, every
 * way is listed and the best is picked from the list. It shares no line with the class.
 */
final class Model {
    static final int UNKNOWN = -1, OUTSIDE = -2, STATE = -3, FULL = -4, NO = -5, NONE = -6;
    static final long GONE = -1000000000000000000L;

    static final class Barrel {
        int cellar, size, cork, kind;
        Barrel(int cellar, int size, int cork, int kind) {
            this.cellar = cellar; this.size = size; this.cork = cork; this.kind = kind;
        }
    }

    static final class World {
        int n = 3;
        int[] depth = {0, 1, 2, 3, 4, 5};
        int[] room = {8, 8, 8, 8, 8, 8};
        boolean[] wall = new boolean[6];
        Barrel[] barrels = new Barrel[8];
        String table = "05";
        int sour = 20, hands = 20, phase = 0;
        int[] peak = {20, 20, 20, 20};
        List<int[]> sights = new ArrayList<>();

        World copy() {
            World w = new World();
            w.n = n;
            w.depth = depth.clone();
            w.room = room.clone();
            w.wall = wall.clone();
            for (int b = 0; b < 8; b++) {
                Barrel x = barrels[b];
                w.barrels[b] = x == null ? null : new Barrel(x.cellar, x.size, x.cork, x.kind);
            }
            w.table = table;
            w.sour = sour; w.hands = hands; w.phase = phase;
            w.peak = peak.clone();
            for (int[] s : sights) w.sights.add(s.clone());
            return w;
        }
    }

    World w = new World();
    World[] images = new World[2];
    StringBuilder pad = new StringBuilder();

    static boolean in(int v, int a, int b) { return a <= v && v <= b; }
    boolean cell(int c) { return in(c, 0, w.n - 1); }
    boolean there(int b) { return in(b, 0, 7) && w.barrels[b] != null; }

    int count() {
        int c = 0;
        for (Barrel b : w.barrels) if (b != null) c++;
        return c;
    }

    static int inCellar(World w, int c, int butBarrel) {
        int k = 0;
        for (int b = 0; b < 8; b++) if (b != butBarrel && w.barrels[b] != null && w.barrels[b].cellar == c) k++;
        return k;
    }

    static int levelOf(World w, int day) { return w.table.charAt((day + w.phase) % w.table.length()) - '0'; }

    static int breathOf(World w, int c, int level) {
        return w.wall[c] ? 0 : Math.max(0, level - w.depth[c]);
    }

    /** doors[i]: by how much more (or less) the level is on day i. */
    static int acidOf(World w, int barrel, int cellar, int d, int[] doors) {
        int acid = 0;
        for (int day = 0; day < d; day++) {
            int level = Math.max(0, levelOf(w, day) + (doors == null ? 0 : doors[day]));
            int above = breathOf(w, cellar, level) - w.barrels[barrel].cork;
            if (above > 0) acid += above;
            if (acid > 99) acid = 99;
        }
        return acid;
    }

    int acidOf(int b, int d) { return acidOf(w, b, w.barrels[b].cellar, d, null); }

    static int lostOf(World w, int d, int[] doors) {
        int sum = 0;
        for (int b = 0; b < 8; b++)
            if (w.barrels[b] != null && acidOf(w, b, w.barrels[b].cellar, d, doors) >= w.sour) sum += w.barrels[b].size;
        return sum;
    }

    // 1
    int cellars(int n) {
        if (!in(n, 1, 6)) return OUTSIDE;
        int was = w.n;
        World fresh = new World();
        w.n = n; w.depth = fresh.depth; w.room = fresh.room; w.wall = fresh.wall;
        w.barrels = fresh.barrels; w.sights = fresh.sights;
        return was;
    }

    int cellar(int c, int what, int v) {
        if (!cell(c)) return UNKNOWN;
        if (!in(what, 0, 1)) return OUTSIDE;
        if (what == 0) {
            if (!in(v, 0, 8)) return OUTSIDE;
            int was = w.depth[c]; w.depth[c] = v; return was;
        }
        if (!in(v, 1, 8)) return OUTSIDE;
        if (inCellar(w, c, -1) > v) return STATE;
        int was = w.room[c]; w.room[c] = v; return was;
    }

    int wall(int c, boolean wall) {
        if (!cell(c)) return UNKNOWN;
        w.wall[c] = wall;
        return 1;
    }

    int barrel(int b, int c, int size, int cork, int kind) {
        if (!in(b, 0, 7) || !cell(c)) return UNKNOWN;
        if (!in(size, 1, 9) || !in(cork, 0, 9) || !in(kind, 0, 3)) return OUTSIDE;
        if (inCellar(w, c, b) + 1 > w.room[c]) return FULL;
        w.barrels[b] = new Barrel(c, size, cork, kind);
        return count();
    }

    int drink(int b) {
        if (!there(b)) return UNKNOWN;
        w.barrels[b] = null;
        return count();
    }

    int set(int which, int v) {
        int was;
        switch (which) {
            case 0: if (!in(v, 1, 99)) return OUTSIDE; was = w.sour; w.sour = v; return was;
            case 1: if (!in(v, 0, 99)) return OUTSIDE; was = w.hands; w.hands = v; return was;
            case 2: if (!in(v, 0, 29)) return OUTSIDE; was = w.phase; w.phase = v; return was;
            case 3: case 4: case 5: case 6:
                if (!in(v, 0, 99)) return OUTSIDE; was = w.peak[which - 3]; w.peak[which - 3] = v; return was;
            default: return OUTSIDE;
        }
    }

    int say(int sign) {
        if (!in(sign, 33, 126)) return OUTSIDE;
        if (pad.length() == 60) return FULL;
        pad.append((char) sign);
        return pad.length();
    }

    int wipe() { int n = pad.length(); pad.setLength(0); return n; }

    int fault(int how) {
        if (how == 0) return faultTable();
        if (how == 1) return faultMoves();
        return OUTSIDE;
    }

    /** The longest beginning of the pad that some right text begins with. */
    int faultTable() {
        String s = pad.toString();
        if (s.matches("[0-9]{1,30}")) return NONE;
        int k = 0;
        while (k < s.length() && s.substring(0, k + 1).matches("[0-9]{1,30}")) k++;
        return k;
    }

    int faultMoves() {
        String s = pad.toString();
        String letters = "[a-" + (char) ('a' + w.n - 1) + "]";
        if (s.matches("([0-7]" + letters + "|\\.)*")) return NONE;
        int k = 0;
        while (k < s.length() && s.substring(0, k + 1).matches("([0-7]" + letters + "|\\.)*[0-7]?")) k++;
        return k;
    }

    int table() {
        if (faultTable() != NONE) return NO;
        w.table = pad.toString();
        pad.setLength(0);
        return w.table.length();
    }

    // 2
    int level(int day) { return in(day, 0, 999) ? levelOf(w, day) : OUTSIDE; }

    int breath(int c, int day) {
        if (!cell(c)) return UNKNOWN;
        return in(day, 0, 999) ? breathOf(w, c, levelOf(w, day)) : OUTSIDE;
    }

    int part, why, work, days, most;
    int[] acids;
    World moved;

    /** Follows the pad on a copy of the world. */
    void follow(int hands) {
        moved = w.copy();
        acids = new int[8];
        part = 0; why = 0; work = 0; days = 0; most = 0;
        int today = 0;
        List<String> parts = new ArrayList<>();
        for (int i = 0; i < pad.length(); i++) {
            if (pad.charAt(i) == '.') parts.add(".");
            else { parts.add(pad.substring(i, i + 2)); i++; }
        }
        for (part = 0; part < parts.size(); part++) {
            String p = parts.get(part);
            if (p.equals(".")) {
                for (int b = 0; b < 8; b++) {
                    Barrel x = moved.barrels[b];
                    if (x == null) continue;
                    int above = breathOf(moved, x.cellar, levelOf(moved, days)) - x.cork;
                    acids[b] = Math.min(99, acids[b] + Math.max(0, above));
                }
                days++;
                today = 0;
                continue;
            }
            Barrel x = moved.barrels[p.charAt(0) - '0'];
            int to = p.charAt(1) - 'a';
            if (x == null) { why = 1; return; }
            if (x.cellar == to) { why = 2; return; }
            if (inCellar(moved, to, -1) >= moved.room[to]) { why = 3; return; }
            int effort = x.size * (Math.abs(moved.depth[x.cellar] - moved.depth[to]) + 1);
            if (today + effort > hands) { why = 4; return; }
            today += effort;
            work += effort;
            most = Math.max(most, today);
            x.cellar = to;
        }
    }

    int judge(int what) {
        if (!in(what, 0, 3)) return OUTSIDE;
        if (faultMoves() != NONE) return NO;
        follow(w.hands);
        if (what == 0) return why == 0 ? NONE : part;
        if (what == 1) return why == 0 ? NONE : why;
        if (why != 0) return STATE;
        return what == 2 ? work : days;
    }

    int behind(int b, int what) {
        if (!there(b)) return UNKNOWN;
        if (!in(what, 0, 1)) return OUTSIDE;
        if (faultMoves() != NONE) return NO;
        follow(w.hands);
        if (why != 0) return STATE;
        return what == 0 ? moved.barrels[b].cellar : acids[b];
    }

    /** Tries hands upwards: 60 signs hold 30 moves of 81 work at most. */
    int hands() {
        if (faultMoves() != NONE) return NO;
        follow(1000000);
        if (why != 0) return NONE;
        int least = 0, enough = 30 * 81;
        while (least < enough) {
            int half = (least + enough) / 2;
            follow(half);
            if (why == 0) enough = half; else least = half + 1;
        }
        return least;
    }

    int acid(int b, int d) {
        if (!there(b)) return UNKNOWN;
        return in(d, 0, 999) ? acidOf(b, d) : OUTSIDE;
    }

    int sours(int b) {
        if (!there(b)) return UNKNOWN;
        if (acidOf(b, 999) < w.sour) return NONE;
        int d = 0;
        while (acidOf(b, d) < w.sour) d++;
        return d;
    }

    int lost(int d) { return in(d, 0, 999) ? lostOf(w, d, null) : OUTSIDE; }

    // 3
    int plan(int set, int d, int barrel) {
        if (!in(set, 0, 255) || !in(d, 0, 999)) return OUTSIDE;
        List<Integer> of = new ArrayList<>();
        for (int b = 0; b < 8; b++) {
            if ((set & 1 << b) == 0) continue;
            if (!there(b)) return OUTSIDE;
            of.add(b);
        }
        if (barrel != -1 && !of.contains(barrel)) return UNKNOWN;
        if (of.size() > 4) return FULL;
        List<int[]> ways = new ArrayList<>();
        listPlans(of, d, new int[of.size()], 0, ways);
        int[] best = null;
        int least = 0;
        for (int[] way : ways) {
            int sum = 0;
            for (int i = 0; i < way.length; i++) {
                Barrel x = w.barrels[of.get(i)];
                if (x.cellar != way[i]) sum += x.size * (1 + Math.abs(w.depth[x.cellar] - w.depth[way[i]]));
            }
            if (best == null || sum < least || sum == least && Arrays.compare(way, best) < 0) { best = way; least = sum; }
        }
        if (best == null) return NONE;
        return barrel == -1 ? least : best[of.indexOf(barrel)];
    }

    private void listPlans(List<Integer> of, int d, int[] way, int at, List<int[]> ways) {
        if (at == way.length) {
            World tried = w.copy();
            for (int i = 0; i < way.length; i++) tried.barrels[of.get(i)].cellar = way[i];
            for (int c = 0; c < w.n; c++) if (inCellar(tried, c, -1) > w.room[c]) return;
            ways.add(way.clone());
            return;
        }
        for (int c = w.n - 1; c >= 0; c--) {
            if (acidOf(w, of.get(at), c, d, null) >= w.sour) continue;
            way[at] = c;
            listPlans(of, d, way, at + 1, ways);
        }
    }

    int valueOf(int b, int d) {
        int acid = acidOf(b, d);
        if (acid >= w.sour) return 0;
        Barrel x = w.barrels[b];
        return Math.max(0, x.size * (50 - Math.abs(d - w.peak[x.kind]) - acid));
    }

    int value(int b, int d) {
        if (!there(b)) return UNKNOWN;
        return in(d, 0, 99) ? valueOf(b, d) : OUTSIDE;
    }

    int opening(int b, int what) {
        if (!there(b)) return UNKNOWN;
        if (!in(what, 0, 1)) return OUTSIDE;
        int best = 99;
        for (int d = 99; d >= 0; d--) if (valueOf(b, d) >= valueOf(b, best)) best = d;
        return what == 0 ? best : valueOf(b, best);
    }

    int valueOfAll(int d) {
        int sum = 0;
        for (int b = 0; b < 8; b++) if (there(b)) sum += valueOf(b, d);
        return sum;
    }

    int banquet(int what) {
        if (!in(what, 0, 1)) return OUTSIDE;
        int best = 99, most = valueOfAll(99);
        for (int d = 98; d >= 0; d--) {
            int v = valueOfAll(d);
            if (v >= most) { best = d; most = v; }
        }
        return what == 0 ? best : most;
    }

    int poured(int d, int barrel) {
        if (barrel != -1 && !there(barrel)) return UNKNOWN;
        if (!in(d, 0, 999)) return OUTSIDE;
        int[] acid = new int[8];
        for (int b = 0; b < 8; b++) acid[b] = there(b) ? acidOf(b, d) : 0;
        int[] partners = new int[8];
        Arrays.fill(partners, -1);
        bestPartners = null;
        bestWine = -1;
        listPourings(acid, partners, 0);
        return barrel == -1 ? bestWine : bestPartners[barrel];
    }

    private int[] bestPartners;
    private int bestWine;

    private void listPourings(int[] acid, int[] partners, int b) {
        if (b == 8) {
            int wine = 0;
            for (int i = 0; i < 8; i++) {
                if (!there(i) || partners[i] < i) continue;
                Barrel x = w.barrels[i], y = w.barrels[partners[i]];
                if (x == y) { wine += acid[i] < w.sour ? x.size : 0; continue; }
                int mixed = (x.size * acid[i] + y.size * acid[partners[i]]) / (x.size + y.size);
                if (mixed < w.sour) wine += x.size + y.size - (x.kind != y.kind ? 1 : 0);
            }
            if (wine > bestWine || wine == bestWine && Arrays.compare(partners, bestPartners) < 0) {
                bestWine = wine;
                bestPartners = partners.clone();
            }
            return;
        }
        if (!there(b) || partners[b] != -1) { listPourings(acid, partners, b + 1); return; }
        for (int o = 7; o >= b; o--) {
            if (!there(o) || partners[o] != -1) continue;
            partners[b] = o;
            partners[o] = b;
            listPourings(acid, partners, b + 1);
            partners[b] = -1;
            partners[o] = -1;
        }
    }

    // 4
    static long told(BigInteger upper, BigInteger lower, int part) {
        BigInteger g = upper.gcd(lower);
        return (part == 0 ? upper : lower).divide(g).longValueExact();
    }

    /** Of all 2^d ways in which doors are open: the sum of weight times what is lost of the barrels. */
    BigInteger weighed(int barrel, int d, int c) {
        BigInteger sum = BigInteger.ZERO;
        for (int way = 0; way < 1 << d; way++) {
            long weight = 1;
            int[] doors = new int[d];
            for (int i = 0; i < d; i++) {
                doors[i] = way >> i & 1;
                weight *= doors[i] == 1 ? c : 10 - c;
            }
            int loss = barrel == -1 ? lostOf(w, d, doors)
                : acidOf(w, barrel, w.barrels[barrel].cellar, d, doors) >= w.sour ? 1 : 0;
            sum = sum.add(BigInteger.valueOf(weight).multiply(BigInteger.valueOf(loss)));
        }
        return sum;
    }

    long likely(int b, int d, int c, int part) {
        if (!there(b)) return GONE + UNKNOWN;
        if (!in(d, 0, 10) || !in(c, 0, 10) || !in(part, 0, 1)) return GONE + OUTSIDE;
        return told(weighed(b, d, c), BigInteger.TEN.pow(d), part);
    }

    long mean(int d, int c, int part) {
        if (!in(d, 0, 10) || !in(c, 0, 10) || !in(part, 0, 1)) return GONE + OUTSIDE;
        return told(weighed(-1, d, c), BigInteger.TEN.pow(d), part);
    }

    int seen(int b, int d, int v) {
        if (!there(b)) return UNKNOWN;
        if (!in(d, 0, 30) || !in(v, 0, 99)) return OUTSIDE;
        if (w.sights.size() == 6) return FULL;
        w.sights.add(new int[] {b, d, v});
        return w.sights.size();
    }

    int forget() { int n = w.sights.size(); w.sights.clear(); return n; }

    static boolean holds(World x, int[] doors) {
        for (int[] s : x.sights) {
            if (x.barrels[s[0]] == null) return false;
            if (acidOf(x, s[0], x.barrels[s[0]].cellar, s[1], doors) != s[2]) return false;
        }
        return true;
    }

    int walls() {
        int bits = 0;
        for (int c = -1; c < w.n; c++) {
            World x = w.copy();
            x.wall = new boolean[6];
            if (c >= 0) x.wall[c] = true;
            if (holds(x, null)) bits |= c < 0 ? 64 : 1 << c;
        }
        return bits;
    }

    int moons() {
        int bits = 0;
        for (int p = 0; p < w.table.length(); p++) {
            World x = w.copy();
            x.phase = p;
            if (holds(x, null)) bits |= 1 << p;
        }
        return bits;
    }

    int open(int what) {
        if (!in(what, 0, 1)) return OUTSIDE;
        int latest = 0;
        for (int[] s : w.sights) latest = Math.max(latest, s[1]);
        List<Integer> found = new ArrayList<>();
        for (int day = 0; day < latest; day++) {
            int[] doors = new int[30];
            doors[day] = 1;
            if (holds(w, doors)) found.add(day);
        }
        if (what == 0) return found.size();
        return found.isEmpty() ? NONE : found.get(0);
    }

    int shifts(int t, int r, int what) {
        if (!in(t, 0, 9) || !in(r, 1, 30) || !in(what, 0, 1)) return OUTSIDE;
        int len = w.table.length();
        if (len > 12) return FULL;
        for (int k = 0; k <= len; k++) {
            for (int begins = 0; begins < 1 << len; begins++) {
                if (Integer.bitCount(begins) != k) continue;
                boolean[] awake = new boolean[len];
                for (int b = 0; b < len; b++)
                    if ((begins >> b & 1) == 1) for (int i = 0; i < r; i++) awake[(b + i) % len] = true;
                boolean good = true;
                for (int i = 0; i < len; i++) if (w.table.charAt(i) - '0' >= t && !awake[i]) good = false;
                if (good) return what == 0 ? k : begins;
            }
        }
        throw new IllegalStateException();
    }

    int drought(int d) {
        if (!in(d, 0, 999)) return OUTSIDE;
        for (int k = 0; k < 10; k++) {
            int[] doors = new int[d];
            Arrays.fill(doors, -k);
            if (lostOf(w, d, doors) == 0) return k;
        }
        throw new IllegalStateException();
    }

    int quiet(int c) {
        if (!cell(c)) return UNKNOWN;
        int best = 0;
        for (int from = 0; from < w.table.length(); from++) {
            int k = 0;
            while (k < w.table.length() && breathOf(w, c, levelOf(w, from + k)) == 0) k++;
            best = Math.max(best, k);
        }
        return best == w.table.length() ? NONE : best;
    }

    int period() {
        for (int p = 1; ; p++)
            if (w.table.length() % p == 0 && w.table.substring(0, p).repeat(w.table.length() / p).equals(w.table)) return p;
    }

    int year(int seed, int m, int c, int what) {
        if (!in(seed, 0, 9999) || !in(m, 1, 999) || !in(c, 1, 99) || !in(what, 0, 1)) return OUTSIDE;
        int[] doors = new int[m];
        long x = seed;
        int open = 0;
        for (int i = 0; i < m; i++) {
            x = (75 * x + 74) % 65537;
            if (x % c == 0) { doors[i] = 1; open++; }
        }
        return what == 0 ? lostOf(w, m, doors) : open;
    }

    int image(int n) {
        if (!in(n, 0, 1)) return OUTSIDE;
        images[n] = w.copy();
        return 1;
    }

    int restore(int n) {
        if (!in(n, 0, 1)) return OUTSIDE;
        if (images[n] == null) return STATE;
        w = images[n].copy();
        return 1;
    }

    int told(int what) {
        int bits = 0;
        for (int b = 0; b < 8; b++) if (there(b)) bits |= 1 << b;
        int[] first = {pad.length(), w.n, bits, w.sour, w.hands, w.phase, w.table.length(), w.sights.size()};
        if (in(what, 0, 7)) return first[what];
        for (int c = 0; c < w.n; c++) {
            if (what == 10 + c) return w.depth[c];
            if (what == 20 + c) return w.room[c];
            if (what == 30 + c) return w.wall[c] ? 1 : 0;
        }
        for (int k = 0; k < 4; k++) if (what == 40 + k) return w.peak[k];
        for (int b = 0; b < 8; b++) {
            if (!there(b)) continue;
            Barrel x = w.barrels[b];
            int[] of = {x.cellar, x.size, x.cork, x.kind};
            for (int i = 0; i < 4; i++) if (what == 100 * (1 + b) + i) return of[i];
        }
        return OUTSIDE;
    }
}
