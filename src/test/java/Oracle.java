import java.math.BigInteger;
import java.util.ArrayList;
import java.util.List;

/** The document again, said as slowly and plainly as it can be, for RandomRunsTest to compare with. */
final class Oracle {
    static final class Lot {
        int kind, village, heads;
        Lot(int kind, int village, int heads) { this.kind = kind; this.village = village; this.heads = heads; }
        Lot copy() { return new Lot(kind, village, heads); }
        int seen(long moon) { return seenAs(kind, moon); }
        int seenAs(int k, long moon) {
            if (k == 0) return heads;
            if (k == 1) return seenAs(0, moon) / 2;
            if (k == 2) return seenAs(0, moon) + 10;
            if (k == 3) return moon % 2 == 0 ? seenAs(0, moon) : 0;
            if (k == 4) return seenAs(1, moon) / 2;
            return 2 * seenAs(2, moon);
        }
        int taken() { return Math.min(heads, takenAs(kind)); }
        int takenAs(int k) {
            if (k == 0) return (int) Math.ceil(heads / 10.0);
            if (k == 1) return takenAs(0);
            if (k == 2) return 0;
            if (k == 3) return takenAs(0);
            if (k == 4) return takenAs(1) / 2;
            return 1;
        }
    }

    static final class Road {
        int a, b; boolean guarded;
        Road(int a, int b, boolean guarded) { this.a = a; this.b = b; this.guarded = guarded; }
    }

    static final class Step { int moon; List<Integer> heads = new ArrayList<>(); }

    static final class World {
        int n = 3, growth = 0, moon = 0;
        int[] odds = new int[5], told = new int[3];
        List<Lot> lots = new ArrayList<>();
        List<Road> roads = new ArrayList<>();
        List<Step> steps = new ArrayList<>();

        World copy() {
            World w = new World();
            w.n = n; w.growth = growth; w.moon = moon; w.odds = odds.clone(); w.told = told.clone();
            for (Lot l : lots) w.lots.add(l.copy());
            for (Road r : roads) w.roads.add(new Road(r.a, r.b, r.guarded));
            w.steps = new ArrayList<>(steps);
            return w;
        }

        int sight(int v, int clouds) {
            if ((clouds & 1 << v) != 0) return 0;
            int s = 0;
            for (Lot l : lots) if (l.village == v) s += l.seen(moon);
            return s;
        }

        int greatest(int clouds, int except) {
            int best = -1;
            for (int v = n - 1; v >= 0; v--) {
                if (v == except || sight(v, clouds) == 0) continue;
                if (best < 0 || sight(v, clouds) >= sight(best, clouds)) best = v;
            }
            return best;
        }

        int toll(int v) {
            int s = 0;
            for (Lot l : lots) if (l.village == v) s += l.taken();
            return s;
        }

        int heads(int v) {
            int s = 0;
            for (Lot l : lots) if (l.village == v) s += l.heads;
            return s;
        }

        int moonBy(int clouds, boolean two) {
            int g = greatest(clouds, -1);
            int h = two && g >= 0 ? greatest(clouds, g) : -1;
            int sum = 0;
            for (Lot l : lots) {
                if (l.village == g || l.village == h) { int t = l.taken(); l.heads -= t; sum += t; }
            }
            for (Lot l : lots) {
                if (l.kind != 2 && l.kind != 5 && l.heads > 0) l.heads = Math.min(99, l.heads + growth);
            }
            moon++;
            return sum;
        }

        void remember() {
            Step s = new Step();
            s.moon = moon;
            for (Lot l : lots) s.heads.add(l.heads);
            steps.add(s);
            if (steps.size() > 10) steps.remove(0);
        }

        boolean v(int x) { return 0 <= x && x < n; }
        boolean l(int x) { return 0 <= x && x < lots.size(); }
        boolean cl(int x) { return 0 <= x && x < Math.pow(2, n); }

        // what an ITEM may tell: BAD, NO, FULL or the answer
        int lot(int kind, int village, int heads) {
            if (kind < 0 || kind > 5 || !v(village) || heads < 0 || heads > 99) return -2;
            if (lots.size() == 10) return -4;
            lots.add(new Lot(kind, village, heads));
            steps.clear();
            return lots.size() - 1;
        }
        int growth(int g) {
            if (g < 0 || g > 9) return -2;
            int was = growth; growth = g; return was;
        }
        int cloud(int village, int c) {
            if (!v(village) || c < 0 || c > 10) return -2;
            int was = odds[village]; odds[village] = c; return was;
        }
        int road(int a, int b) {
            if (!v(a) || !v(b) || a == b) return -2;
            for (Road r : roads) if (r.a + r.b == a + b && r.a * r.b == a * b) return -3;
            roads.add(new Road(a, b, false));
            return roads.size() - 1;
        }
        int guard(int k, boolean is) {
            if (k < 0 || k >= roads.size()) return -2;
            if (roads.get(k).guarded == is) return -3;
            roads.get(k).guarded = is;
            return 1;
        }
        int distance(int a, int b, int shutToo) {
            int[] far = new int[n];
            for (int i = 0; i < n; i++) far[i] = i == a ? 0 : 1000;
            for (int round = 0; round < n; round++) {
                for (int i = 0; i < roads.size(); i++) {
                    Road r = roads.get(i);
                    if (r.guarded || (shutToo & 1 << i) != 0) continue;
                    far[r.a] = Math.min(far[r.a], far[r.b] + 1);
                    far[r.b] = Math.min(far[r.b], far[r.a] + 1);
                }
            }
            return far[b] >= 1000 ? -1 : far[b];
        }
    }

    World now = new World();
    World[] images = new World[2];
    StringBuilder text = new StringBuilder();
    long above = 0, below = 1;
    int[] refused = new int[3];

    int answer(int x) {
        if (x == -2) refused[0]++;
        if (x == -3) refused[1]++;
        if (x == -4) refused[2]++;
        return x;
    }
    int bad(int x) { refused[0]++; return x; }
    void fraction(long a, long b) {
        BigInteger g = BigInteger.valueOf(a).gcd(BigInteger.valueOf(b));
        above = BigInteger.valueOf(a).divide(g).longValueExact();
        below = BigInteger.valueOf(b).divide(g).longValueExact();
    }

    int county(int n) {
        if (n < 1 || n > 5) return answer(-2);
        int was = now.n;
        now = new World();
        now.n = n;
        return was;
    }
    int lot(int kind, int village, int heads) { return answer(now.lot(kind, village, heads)); }
    int move(int lot, int village) {
        if (!now.l(lot) || !now.v(village)) return answer(-2);
        int was = now.lots.get(lot).village;
        now.lots.get(lot).village = village;
        return was;
    }
    int drive(int from, int to, int k) {
        if (!now.l(from) || !now.l(to) || from == to || k < 0) return answer(-2);
        Lot a = now.lots.get(from), b = now.lots.get(to);
        if (a.heads < k || (long) b.heads + k > 99) return answer(-3);
        now.remember();
        a.heads -= k;
        b.heads += k;
        return b.heads;
    }
    int drop() {
        if (now.lots.isEmpty()) return answer(-3);
        now.lots.remove(now.lots.size() - 1);
        now.steps.clear();
        return now.lots.size();
    }
    int growth(int g) { return answer(now.growth(g)); }
    int cloud(int village, int c) { return answer(now.cloud(village, c)); }
    int road(int a, int b) { return answer(now.road(a, b)); }
    int guard(int road, boolean is) { return answer(now.guard(road, is)); }
    int type(int c) {
        if (c < 0 || c > 127) return answer(-2);
        if (text.length() == 150) return answer(-4);
        text.append((char) c);
        return text.length();
    }
    int clear() { int had = text.length(); text.setLength(0); return had; }

    int read() {
        // Tokens by hand of regular expressions; all figures in a row are one token, which is a number only if it has 1 or 2.
        java.util.regex.Matcher m = java.util.regex.Pattern.compile("[a-z]+|[0-9]+|[^ ]", java.util.regex.Pattern.DOTALL).matcher(text);
        List<String> tokens = new ArrayList<>();
        List<Integer> places = new ArrayList<>();
        while (m.find()) { tokens.add(m.group()); places.add(m.start()); }
        int t = 0, items = 0;
        World w = new World();
        int refusedItem = -1;
        while (t < tokens.size() || items == 0) {
            List<Integer> numbers = new ArrayList<>();
            if (t >= tokens.size()) return -10 - text.length();
            String word = tokens.get(t);
            int due = switch (word) { case "county", "growth", "guard" -> 1; case "cloud", "road" -> 2; case "lot" -> 3; default -> -1; };
            if (due < 0 || word.equals("county") != (items == 0)) return -10 - places.get(t);
            t++;
            for (int i = 0; i < due; i++, t++) {
                if (t >= tokens.size()) return -10 - text.length();
                if (!tokens.get(t).matches("[0-9]{1,2}")) return -10 - places.get(t);
                numbers.add(Integer.parseInt(tokens.get(t)));
            }
            if (t >= tokens.size()) return -10 - text.length();
            if (!tokens.get(t).equals(";")) return -10 - places.get(t);
            t++;
            if (refusedItem < 0) {
                int x = numbers.get(0), got;
                switch (word) {
                    case "county": got = x < 1 || x > 5 ? -2 : 1; w.n = x; break;
                    case "lot": got = w.lot(x, numbers.get(1), numbers.get(2)); break;
                    case "growth": got = w.growth(x); break;
                    case "cloud": got = w.cloud(x, numbers.get(1)); break;
                    case "road": got = w.road(x, numbers.get(1)); break;
                    default: got = w.guard(x, true);
                }
                if (got < 0) refusedItem = items;
            }
            items++;
        }
        if (refusedItem >= 0) return -1000 - refusedItem;
        now = w;
        return items;
    }

    int moon(int clouds, boolean two) {
        if (!now.cl(clouds)) return answer(-2);
        now.remember();
        return now.moonBy(clouds, two);
    }
    int undo() {
        if (now.steps.isEmpty()) return answer(-3);
        Step s = now.steps.remove(now.steps.size() - 1);
        now.moon = s.moon;
        for (int i = 0; i < s.heads.size(); i++) now.lots.get(i).heads = s.heads.get(i);
        return 1;
    }
    int of(int lot, int what) {
        if (!now.l(lot) || what < 0 || what > 4) return answer(-2);
        Lot l = now.lots.get(lot);
        return new int[] {l.kind, l.village, l.heads, l.seen(now.moon), l.taken()}[what];
    }
    int village(int v, int what) {
        if (!now.v(v) || what < 0 || what > 1) return answer(-2);
        return what == 0 ? now.sight(v, 0) : now.heads(v);
    }
    int greatest(int clouds) {
        if (!now.cl(clouds)) return bad(-10);
        return now.greatest(clouds, -1);
    }

    private int taken(World w, int clouds) { return w.copy().moonBy(clouds, false); }

    int least(int clouds, int m, int what) {
        if (!now.cl(clouds) || m < 0 || m > 2 || what < 0 || what > 2) return bad(-10);
        List<int[]> plans = new ArrayList<>();
        plans.add(new int[] {-1, -1});
        List<Integer> all = new ArrayList<>();
        for (int l = 0; l < now.lots.size(); l++) {
            for (int v = 0; v < now.n; v++) if (now.lots.get(l).village != v) all.add(10 * l + v);
        }
        if (m >= 1) for (int a : all) plans.add(new int[] {a, -1});
        if (m == 2) for (int a : all) for (int b : all) if (a / 10 < b / 10) plans.add(new int[] {a, b});
        int[] best = null;
        int least = 0;
        for (int[] plan : plans) {
            World w = now.copy();
            for (int step : plan) if (step >= 0) w.lots.get(step / 10).village = step % 10;
            int t = taken(w, clouds);
            if (best == null || t < least) { best = plan; least = t; }
        }
        return what == 0 ? least : best[what - 1];
    }

    /** In how many of 10 to the n cases it is so, times what: 1, or what is taken. */
    private long cases(World w, int village, boolean loss) {
        long sum = 0;
        for (int c = 0; c < 1 << w.n; c++) {
            long weight = 1;
            for (int v = 0; v < w.n; v++) weight *= (c & 1 << v) != 0 ? w.odds[v] : 10 - w.odds[v];
            int g = w.greatest(c, -1);
            if (g >= 0 && (village == -1 || village == g)) sum += weight * (loss ? w.toll(g) : 1);
        }
        return sum;
    }
    private long tens() { return Math.round(Math.pow(10, now.n)); }

    int chance(int village) {
        if (!now.v(village)) return answer(-2);
        fraction(cases(now, village, false), tens());
        return 1;
    }
    int mean(int village) {
        if (village != -1 && !now.v(village)) return answer(-2);
        fraction(cases(now, village, true), tens());
        return 1;
    }
    int painting(int village, int heads) {
        if (!now.v(village) || heads < 0 || heads > 99) return answer(-2);
        long best = cases(now, village, true);
        int where = -1;
        for (int v = 0; v < now.n; v++) {
            World w = now.copy();
            w.lots.add(new Lot(2, v, heads));
            long c = cases(w, village, true);
            if (c < best) { best = c; where = v; }
        }
        return where;
    }
    int unseen(int a, int b) {
        if (!now.v(a) || !now.v(b) || a == b) return answer(-2);
        return now.distance(a, b, 0);
    }
    int cut(int a, int b, int what) {
        if (!now.v(a) || !now.v(b) || a == b || what < 0 || what > 1) return answer(-2);
        int best = -1;
        for (int k = 0; best < 0; k++) {
            for (int set = 0; best < 0 && set < 1 << now.roads.size(); set++) {
                boolean free = Integer.bitCount(set) == k;
                for (int i = 0; i < now.roads.size(); i++) if ((set & 1 << i) != 0 && now.roads.get(i).guarded) free = false;
                if (free && now.distance(a, b, set) < 0) best = set;
            }
        }
        if (what == 0) return Integer.bitCount(best);
        int side = 0;
        for (int v = 0; v < now.n; v++) if (v == a || now.distance(a, v, best) > 0) side += 1 << v;
        return side;
    }
    int game(int a, int b, int what) {
        if (!now.v(a) || !now.v(b) || a == b || what < 0 || what > 1) return bad(-10);
        int[][] la = new int[10][10], lb = new int[10][10];
        for (int x = 0; x < 10; x++) {
            for (int y = 0; y < 10; y++) {
                int sa = now.sight(a, 0) + (10 - x) + x / 2, sb = now.sight(b, 0) + (10 - y) + y / 2;
                int hit = sa > sb ? a : sb > sa ? b : Math.min(a, b);
                la[x][y] = (hit == a ? 5 : 0) + x / 4;
                lb[x][y] = (hit == b ? 5 : 0) + y / 4;
            }
        }
        int many = 0, first = -1;
        for (int x = 9; x >= 0; x--) {
            for (int y = 9; y >= 0; y--) {
                boolean rests = true;
                for (int z = 0; z < 10; z++) if (la[z][y] < la[x][y] || lb[x][z] < lb[x][y]) rests = false;
                if (rests) { many++; first = 10 * x + y; }
            }
        }
        return what == 0 ? many : first;
    }
    private int worth(int some) {
        World w = now.copy();
        w.lots.removeIf(l -> (some & 1 << l.village) == 0);
        return taken(w, 0);
    }
    int league(int some) { return now.cl(some) ? worth(some) : answer(-2); }
    int share(int village) {
        if (!now.v(village)) return answer(-2);
        long[] sum = new long[2];
        orders(new ArrayList<>(), village, sum);
        fraction(sum[0], sum[1]);
        return 1;
    }
    private void orders(List<Integer> order, int village, long[] sum) {
        if (order.size() == now.n) {
            int ahead = 0;
            for (int v : order) { if (v == village) break; ahead |= 1 << v; }
            sum[0] += worth(ahead | 1 << village) - worth(ahead);
            sum[1]++;
        }
        for (int v = 0; v < now.n; v++) {
            if (!order.contains(v)) { order.add(v); orders(order, village, sum); order.remove(order.size() - 1); }
        }
    }
    int pays(int village, int m) {
        if (!now.v(village) || m < 0 || m > 40) return answer(-2);
        for (int g = 0; g < 10; g++) {
            World w = now.copy();
            w.growth = g;
            for (int i = 0; i < m; i++) w.moonBy(0, false);
            if (w.heads(village) >= now.heads(village)) return g;
        }
        return -1;
    }
    int told(int i, int n) {
        if (i < 0 || i > 2 || n < 0 || n > 999) return answer(-2);
        int was = now.told[i]; now.told[i] = n; return was;
    }
    int fit(int m, int what) {
        if (m < 1 || m > 3 || what < 0 || what > 1) return bad(-10);
        int[] found = {0, -1};
        rows(now, 0, m, 0, found);
        return found[what];
    }
    private void rows(World w, int i, int m, int number, int[] found) {
        if (i == m) {
            if (found[0]++ == 0) found[1] = number;
            return;
        }
        for (int c = 0; c < 1 << w.n; c++) {
            World next = w.copy();
            if (next.moonBy(c, false) == now.told[i]) rows(next, i + 1, m, number * 32 + c, found);
        }
    }
    int drawn(int m, int seed) {
        if (m < 0 || m > 60 || seed < 0 || seed > 999999) return answer(-2);
        World w = now.copy();
        BigInteger x = BigInteger.valueOf(seed);
        int sum = 0;
        for (int i = 0; i < m; i++) {
            int clouds = 0;
            for (int v = 0; v < w.n; v++) {
                x = x.multiply(BigInteger.valueOf(1103515245)).add(BigInteger.valueOf(12345)).mod(BigInteger.ONE.shiftLeft(31));
                if (x.intValueExact() / 65536 % 10 < w.odds[v]) clouds += 1 << v;
            }
            sum += w.moonBy(clouds, false);
        }
        return sum;
    }
    long part(int what) {
        if (what == 0) return above;
        if (what == 1) return below;
        return bad(-100000);
    }
    int image(int i) {
        if (i < 0 || i > 1) return answer(-2);
        images[i] = now.copy();
        return 1;
    }
    int from(int i) {
        if (i < 0 || i > 1) return answer(-2);
        if (images[i] == null) return answer(-3);
        now = images[i].copy();
        return 1;
    }
    int status(int what) { return what < 0 || what > 2 ? bad(-1) : refused[what]; }
    private int[] counts() {
        return new int[] {now.n, now.lots.size(), now.roads.size(), now.moon, now.steps.size(), text.length(), now.growth};
    }
    int count(int what) { return what < 0 || what > 6 ? answer(-2) : counts()[what]; }
    long digest() {
        List<Long> row = new ArrayList<>();
        for (int x : counts()) row.add((long) x);
        for (int v = 0; v < now.n; v++) row.add((long) now.odds[v]);
        for (Lot l : now.lots) { row.add((long) l.kind); row.add((long) l.village); row.add((long) l.heads); }
        for (Road r : now.roads) { row.add((long) r.a); row.add((long) r.b); row.add(r.guarded ? 1L : 0L); }
        for (int t : now.told) row.add((long) t);
        row.add(above);
        row.add(below);
        long h = 853;
        for (long v : row) h = 31 * h + v;
        return h;
    }
}
