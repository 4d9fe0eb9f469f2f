/** The dragon's tithe: a county of villages whose lots a dragon counts from the air at each full moon. */
public final class DragonTithe {
    public static final int NONE = -1, BAD = -2, NO = -3, FULL = -4;

    private static final int BAD_AS_TEN = -10;
    private static final int BAD_AS_ONE = -1;
    private static final long BAD_PART = -100000L;
    private static final int FAULT_BASE = -10;
    private static final int REFUSED_ITEM_BASE = -1000;

    private static final int MOST_VILLAGES = 5;
    private static final int VILLAGES_AT_FIRST = 3;
    private static final int MOST_LOTS = 10;
    private static final int MOST_KIND = 5;
    private static final int MOST_HEADS = 99;
    private static final int MOST_ROADS = 10;
    private static final int MOST_GROWTH = 9;
    private static final int MOST_ODDS = 10;
    private static final int MOST_UNDONE = 10;
    private static final int MOST_BYTES = 150;
    private static final int MOST_BYTE = 127;
    private static final int IMAGES = 2;
    private static final int MOONS_TOLD = 3;
    private static final int MOST_TOLD = 999;
    private static final int MOST_MOVES = 2;
    private static final int MOST_PAYING_MOONS = 40;
    private static final int MOST_DRAWN_MOONS = 60;
    private static final int MOST_SEED = 999999;
    private static final int COUNTS = 7;
    private static final long DIGEST_START = 853L;

    private static final int[] FACTORIALS = {1, 1, 2, 6, 24, 120};

    private final County now = new County();
    private final County[] images = new County[IMAGES];
    private final boolean[] kept = new boolean[IMAGES];
    private final Scroll scroll = new Scroll();
    // Work rows, made once, so that no call makes objects.
    private final County trial = new County();
    private final Herd trialHerd = new Herd();
    private final Weather weather = new Weather();
    private final Moves moves = new Moves();
    private final Game play = new Game();
    private final Fit fits = new Fit();

    private long above = 0;
    private long below = 1;
    private int refusedBad = 0;
    private int refusedNo = 0;
    private int refusedFull = 0;

    public DragonTithe() {
        for (int i = 0; i < IMAGES; i++) {
            images[i] = new County();
        }
    }

    // ---- a county

    public int county(int n) {
        return tally(now.startAnew(n));
    }

    public int lot(int kind, int village, int heads) {
        return tally(now.addLot(kind, village, heads));
    }

    public int move(int lot, int village) {
        return tally(now.moveLot(lot, village));
    }

    public int drive(int from, int to, int k) {
        return tally(now.driveHeads(from, to, k));
    }

    public int drop() {
        return tally(now.dropLot());
    }

    public int growth(int g) {
        return tally(now.setGrowth(g));
    }

    public int cloud(int village, int c) {
        return tally(now.setOdds(village, c));
    }

    public int road(int a, int b) {
        return tally(now.addRoad(a, b));
    }

    public int guard(int road, boolean is) {
        return tally(now.setGuard(road, is));
    }

    public int type(int c) {
        return tally(scroll.append(c));
    }

    public int clear() {
        int had = scroll.length;
        scroll.length = 0;
        return had;
    }

    public int read() {
        int fault = scroll.parse();
        if (fault != NONE) {
            return FAULT_BASE - fault;
        }
        for (int i = 0; i < scroll.items; i++) {
            if (tellItem(i) < 0) {
                return REFUSED_ITEM_BASE - i;
            }
        }
        now.become(trial);
        return scroll.items;
    }

    // ---- moons

    public int moon(int clouds, boolean two) {
        return tally(now.passMoon(clouds, two));
    }

    public int undo() {
        return tally(now.undoLast());
    }

    public int of(int lot, int what) {
        Herd herd = now.herd;
        if (!herd.hasLot(lot)) {
            return tally(BAD);
        }
        switch (what) {
            case 0: return herd.kind[lot];
            case 1: return herd.place[lot];
            case 2: return herd.heads[lot];
            case 3: return herd.seenOf(lot);
            case 4: return herd.takenOf(lot);
            default: return tally(BAD);
        }
    }

    public int village(int v, int what) {
        Herd herd = now.herd;
        if (!herd.hasVillage(v) || what < 0 || what > 1) {
            return tally(BAD);
        }
        return what == 0 ? herd.sightOf(v) : herd.headsIn(v);
    }

    public int greatest(int clouds) {
        Herd herd = now.herd;
        if (!herd.hasClouds(clouds)) {
            return refuseAsBad(BAD_AS_TEN);
        }
        herd.look();
        return herd.greatestBut(clouds);
    }

    // ---- what to do

    public int least(int clouds, int m, int what) {
        if (!now.herd.hasClouds(clouds) || m < 0 || m > MOST_MOVES || what < 0 || what > 2) {
            return refuseAsBad(BAD_AS_TEN);
        }
        moves.search(now.herd, clouds, m);
        if (what == 0) {
            return moves.best;
        }
        return what == 1 ? moves.first : moves.second;
    }

    public int chance(int village) {
        if (!now.herd.hasVillage(village)) {
            return tally(BAD);
        }
        weather.foresee(now, NONE, 0);
        setFraction(weather.weight[village], weather.whole);
        return 1;
    }

    public int mean(int village) {
        if (village != NONE && !now.herd.hasVillage(village)) {
            return tally(BAD);
        }
        weather.foresee(now, NONE, 0);
        setFraction(village == NONE ? weather.lossOfAll() : weather.lossOf(village), weather.whole);
        return 1;
    }

    public int painting(int village, int heads) {
        if (!now.herd.hasVillage(village) || heads < 0 || heads > MOST_HEADS) {
            return tally(BAD);
        }
        return weather.bestPainting(now, village, heads);
    }

    public int unseen(int a, int b) {
        if (!now.herd.hasPair(a, b)) {
            return tally(BAD);
        }
        return now.roads.shortestWay(a, b);
    }

    public int cut(int a, int b, int what) {
        if (!now.herd.hasPair(a, b) || what < 0 || what > 1) {
            return tally(BAD);
        }
        int guards = now.roads.fewestGuards(a, b);
        if (what == 0) {
            return Integer.bitCount(guards);
        }
        return now.roads.sideOf(a, now.roads.guarded | guards);
    }

    public int game(int a, int b, int what) {
        if (!now.herd.hasPair(a, b) || what < 0 || what > 1) {
            return refuseAsBad(BAD_AS_TEN);
        }
        play.search(now.herd, a, b);
        return what == 0 ? play.resting : play.first;
    }

    public int league(int some) {
        if (!now.herd.hasClouds(some)) {
            return tally(BAD);
        }
        now.herd.look();
        return now.herd.takenFromLeague(some);
    }

    public int share(int village) {
        Herd herd = now.herd;
        if (!herd.hasVillage(village)) {
            return tally(BAD);
        }
        herd.look();
        long sum = 0;
        int own = 1 << village;
        for (int others = 0; others < 1 << herd.villages; others++) {
            if ((others & own) == 0) {
                long added = herd.takenFromLeague(others | own) - herd.takenFromLeague(others);
                sum += added * ordersWith(Integer.bitCount(others), herd.villages);
            }
        }
        setFraction(sum, FACTORIALS[herd.villages]);
        return 1;
    }

    public int pays(int village, int m) {
        if (!now.herd.hasVillage(village) || m < 0 || m > MOST_PAYING_MOONS) {
            return tally(BAD);
        }
        int headsNow = now.herd.headsIn(village);
        for (int g = 0; g <= MOST_GROWTH; g++) {
            trialHerd.become(now.herd);
            trialHerd.growth = g;
            for (int i = 0; i < m; i++) {
                trialHerd.fullMoon(0, false);
            }
            if (trialHerd.headsIn(village) >= headsNow) {
                return g;
            }
        }
        return NONE;
    }

    public int told(int i, int n) {
        return tally(now.setTold(i, n));
    }

    public int fit(int m, int what) {
        if (m < 1 || m > MOONS_TOLD || what < 0 || what > 1) {
            return refuseAsBad(BAD_AS_TEN);
        }
        int rows = fits.search(now, m);
        if (what == 0) {
            return rows;
        }
        return rows == 0 ? NONE : fits.first[0];
    }

    public int drawn(int m, int seed) {
        if (m < 0 || m > MOST_DRAWN_MOONS || seed < 0 || seed > MOST_SEED) {
            return tally(BAD);
        }
        trialHerd.become(now.herd);
        long x = seed;
        int taken = 0;
        for (int i = 0; i < m; i++) {
            int clouds = 0;
            for (int v = 0; v < trialHerd.villages; v++) {
                x = (x * 1103515245L + 12345L) % 2147483648L;
                if (x / 65536L % 10L < now.odds[v]) {
                    clouds |= 1 << v;
                }
            }
            taken += trialHerd.fullMoon(clouds, false);
        }
        return taken;
    }

    // ---- what there is

    public long part(int what) {
        if (what < 0 || what > 1) {
            refuseAsBad(BAD);
            return BAD_PART;
        }
        return what == 0 ? above : below;
    }

    public int image(int i) {
        if (i < 0 || i >= IMAGES) {
            return tally(BAD);
        }
        images[i].become(now);
        kept[i] = true;
        return 1;
    }

    public int from(int i) {
        if (i < 0 || i >= IMAGES) {
            return tally(BAD);
        }
        if (!kept[i]) {
            return tally(NO);
        }
        now.become(images[i]);
        return 1;
    }

    public int status(int what) {
        switch (what) {
            case 0: return refusedBad;
            case 1: return refusedNo;
            case 2: return refusedFull;
            default: return refuseAsBad(BAD_AS_ONE);
        }
    }

    public int count(int what) {
        if (what < 0 || what >= COUNTS) {
            return tally(BAD);
        }
        return howMany(what);
    }

    public long digest() {
        long h = DIGEST_START;
        for (int what = 0; what < COUNTS; what++) {
            h = 31 * h + howMany(what);
        }
        h = now.digestOn(h);
        h = 31 * h + above;
        return 31 * h + below;
    }

    // ---- helpers of the calls

    private int tally(int answer) {
        if (answer == BAD) {
            refusedBad++;
        } else if (answer == NO) {
            refusedNo++;
        } else if (answer == FULL) {
            refusedFull++;
        }
        return answer;
    }

    private int refuseAsBad(int answer) {
        refusedBad++;
        return answer;
    }

    private int howMany(int what) {
        switch (what) {
            case 0: return now.herd.villages;
            case 1: return now.herd.lots;
            case 2: return now.roads.size;
            case 3: return now.herd.moon;
            case 4: return now.past.size;
            case 5: return scroll.length;
            default: return now.herd.growth;
        }
    }

    /** Tells an ITEM to the trial county, so that nothing changes if a later one is refused. */
    private int tellItem(int i) {
        int x = scroll.numberOf(i, 0);
        int y = scroll.numberOf(i, 1);
        switch (scroll.word[i]) {
            case Scroll.COUNTY: return trial.startAnew(x);
            case Scroll.LOT: return trial.addLot(x, y, scroll.numberOf(i, 2));
            case Scroll.GROWTH: return trial.setGrowth(x);
            case Scroll.CLOUD: return trial.setOdds(x, y);
            case Scroll.ROAD: return trial.addRoad(x, y);
            default: return trial.setGuard(x, true);
        }
    }

    /** In how many orders of all n VILLAGES just the told number of others come ahead of one. */
    private static long ordersWith(int ahead, int n) {
        int behind = n - 1 - ahead;
        if (ahead < 0 || behind < 0 || ahead >= FACTORIALS.length || behind >= FACTORIALS.length) {
            return 0;
        }
        return (long) FACTORIALS[ahead] * FACTORIALS[behind];
    }

    private void setFraction(long newAbove, long newBelow) {
        long divisor = commonDivisor(Math.abs(newAbove), newBelow);
        if (divisor > 0) {
            above = newAbove / divisor;
            below = newBelow / divisor;
        }
    }

    private static long commonDivisor(long a, long b) {
        // Euclid needs far fewer than 200 rounds for any two longs.
        for (int i = 0; i < 200 && b != 0; i++) {
            long rest = a % b;
            a = b;
            b = rest;
        }
        return a;
    }

    /** What is SEEN and TAKEN of a LOT by its KIND; each KIND leans on the one that it is under. */
    private static final class Kind {
        static final int LIVING = 0, SUNK = 1, PAINTED = 2, LENT = 3, RUNT = 4;

        static int seen(int kind, int heads, int moon) {
            int living = heads;
            int sunk = living / 2;
            int painted = living + 10;
            switch (kind) {
                case LIVING: return living;
                case SUNK: return sunk;
                case PAINTED: return painted;
                case LENT: return moon % 2 == 0 ? living : 0;
                case RUNT: return sunk / 2;
                default: return 2 * painted;
            }
        }

        static int taken(int kind, int heads) {
            int living = (heads + 9) / 10;
            switch (kind) {
                case LIVING:
                case SUNK:
                case LENT: return living;
                case PAINTED: return 0;
                case RUNT: return living / 2;
                default: return Math.min(1, heads);
            }
        }

        static boolean grows(int kind) {
            return kind == LIVING || kind == SUNK || kind == LENT || kind == RUNT;
        }
    }

    /** The LOTS of a county at one time, and what a MOON does to them. */
    private static final class Herd {
        int villages = VILLAGES_AT_FIRST;
        int lots = 0;
        int moon = 0;
        int growth = 0;
        final int[] kind = new int[MOST_LOTS];
        final int[] place = new int[MOST_LOTS];
        final int[] heads = new int[MOST_LOTS];
        /** What look() saw last. */
        final int[] sight = new int[MOST_VILLAGES];

        void startAnew(int n) {
            villages = n;
            lots = 0;
            moon = 0;
            growth = 0;
        }

        void become(Herd other) {
            villages = other.villages;
            lots = other.lots;
            moon = other.moon;
            growth = other.growth;
            System.arraycopy(other.kind, 0, kind, 0, MOST_LOTS);
            System.arraycopy(other.place, 0, place, 0, MOST_LOTS);
            System.arraycopy(other.heads, 0, heads, 0, MOST_LOTS);
        }

        boolean hasVillage(int v) {
            return v >= 0 && v < villages;
        }

        boolean hasPair(int a, int b) {
            return hasVillage(a) && hasVillage(b) && a != b;
        }

        boolean hasLot(int i) {
            return i >= 0 && i < lots;
        }

        boolean hasClouds(int clouds) {
            return clouds >= 0 && clouds < 1 << villages;
        }

        int seenOf(int i) {
            return Kind.seen(kind[i], heads[i], moon);
        }

        int takenOf(int i) {
            return Kind.taken(kind[i], heads[i]);
        }

        int headsIn(int v) {
            int sum = 0;
            for (int i = 0; i < lots; i++) {
                if (place[i] == v) {
                    sum += heads[i];
                }
            }
            return sum;
        }

        int sightOf(int v) {
            int sum = 0;
            for (int i = 0; i < lots; i++) {
                if (place[i] == v) {
                    sum += seenOf(i);
                }
            }
            return sum;
        }

        /** What would be TAKEN of a VILLAGE, were it THE GREATEST. */
        int tollOf(int v) {
            int sum = 0;
            for (int i = 0; i < lots; i++) {
                if (place[i] == v) {
                    sum += takenOf(i);
                }
            }
            return sum;
        }

        void look() {
            for (int v = 0; v < MOST_VILLAGES; v++) {
                sight[v] = 0;
            }
            for (int i = 0; i < lots; i++) {
                sight[place[i]] += seenOf(i);
            }
        }

        int greatestBut(int hidden) {
            return greatestIn(sight, villages, hidden);
        }

        static int greatestIn(int[] sights, int villages, int hidden) {
            int best = NONE;
            int most = 0;
            for (int v = 0; v < villages && v < sights.length; v++) {
                if ((hidden >> v & 1) == 0 && sights[v] > most) {
                    most = sights[v];
                    best = v;
                }
            }
            return best;
        }

        /** By what look() saw: VILLAGES that are not there are as if clouds hid them. */
        int takenFromLeague(int some) {
            int v = greatestBut(~some);
            return v == NONE ? 0 : tollOf(v);
        }

        int fullMoon(int clouds, boolean two) {
            look();
            int taken = 0;
            int first = greatestBut(clouds);
            if (first != NONE) {
                taken += takeFrom(first);
                int second = two ? greatestBut(clouds | 1 << first) : NONE;
                if (second != NONE) {
                    taken += takeFrom(second);
                }
            }
            growAll();
            moon++;
            return taken;
        }

        private int takeFrom(int v) {
            int sum = 0;
            for (int i = 0; i < lots; i++) {
                if (place[i] == v) {
                    int taken = takenOf(i);
                    heads[i] -= taken;
                    sum += taken;
                }
            }
            return sum;
        }

        private void growAll() {
            for (int i = 0; i < lots; i++) {
                if (heads[i] > 0 && Kind.grows(kind[i])) {
                    heads[i] = Math.min(MOST_HEADS, heads[i] + growth);
                }
            }
        }
    }

    /** ROADS and guards; sets of VILLAGES and of ROADS are bits. */
    private static final class Roads {
        int size = 0;
        final int[] one = new int[MOST_ROADS];
        final int[] other = new int[MOST_ROADS];
        int guarded = 0;

        void startAnew() {
            size = 0;
            guarded = 0;
        }

        void become(Roads those) {
            size = those.size;
            guarded = those.guarded;
            System.arraycopy(those.one, 0, one, 0, MOST_ROADS);
            System.arraycopy(those.other, 0, other, 0, MOST_ROADS);
        }

        int add(int a, int b) {
            for (int i = 0; i < size; i++) {
                if ((one[i] == a && other[i] == b) || (one[i] == b && other[i] == a)) {
                    return NO;
                }
            }
            // Five VILLAGES have ten pairs, so there is always room for a new one.
            if (size >= MOST_ROADS) {
                return FULL;
            }
            one[size] = a;
            other[size] = b;
            size++;
            return size - 1;
        }

        boolean isGuarded(int i) {
            return (guarded >> i & 1) == 1;
        }

        int shortestWay(int a, int b) {
            int reached = 1 << a;
            for (int steps = 1; steps < MOST_VILLAGES; steps++) {
                reached = spread(reached, guarded);
                if ((reached >> b & 1) == 1) {
                    return steps;
                }
            }
            return NONE;
        }

        int sideOf(int a, int shut) {
            int reached = 1 << a;
            for (int steps = 1; steps < MOST_VILLAGES; steps++) {
                reached = spread(reached, shut);
            }
            return reached;
        }

        /** The ROADS to be guarded; masks come in rising order, so the first of the fewest is the least. */
        int fewestGuards(int a, int b) {
            int best = 0;
            int fewest = MOST_ROADS + 1;
            for (int guards = 0; guards < 1 << size; guards++) {
                if ((guards & guarded) == 0 && Integer.bitCount(guards) < fewest
                        && (sideOf(a, guarded | guards) >> b & 1) == 0) {
                    fewest = Integer.bitCount(guards);
                    best = guards;
                }
            }
            return best;
        }

        private int spread(int reached, int shut) {
            int wider = reached;
            for (int i = 0; i < size; i++) {
                if ((shut >> i & 1) == 0) {
                    if ((reached >> one[i] & 1) == 1) {
                        wider |= 1 << other[i];
                    }
                    if ((reached >> other[i] & 1) == 1) {
                        wider |= 1 << one[i];
                    }
                }
            }
            return wider;
        }
    }

    /** What may be undone: HEADS and MOON's numbers, the oldest first. */
    private static final class Past {
        int size = 0;
        private final int[] moons = new int[MOST_UNDONE];
        private final int[] heads = new int[MOST_UNDONE * MOST_LOTS];

        void become(Past other) {
            size = other.size;
            System.arraycopy(other.moons, 0, moons, 0, moons.length);
            System.arraycopy(other.heads, 0, heads, 0, heads.length);
        }

        void keep(Herd herd) {
            if (size >= MOST_UNDONE) {
                System.arraycopy(moons, 1, moons, 0, MOST_UNDONE - 1);
                System.arraycopy(heads, MOST_LOTS, heads, 0, heads.length - MOST_LOTS);
                size = MOST_UNDONE - 1;
            }
            moons[size] = herd.moon;
            System.arraycopy(herd.heads, 0, heads, size * MOST_LOTS, MOST_LOTS);
            size++;
        }

        int putBack(Herd herd) {
            if (size <= 0) {
                return NO;
            }
            size--;
            herd.moon = moons[size];
            System.arraycopy(heads, size * MOST_LOTS, herd.heads, 0, MOST_LOTS);
            return 1;
        }
    }

    /** All that an IMAGE keeps; what changes it answers as its call does, but counts no refusal. */
    private static final class County {
        final Herd herd = new Herd();
        final Roads roads = new Roads();
        final Past past = new Past();
        final int[] odds = new int[MOST_VILLAGES];
        final int[] toldTaken = new int[MOONS_TOLD];

        void become(County other) {
            herd.become(other.herd);
            roads.become(other.roads);
            past.become(other.past);
            System.arraycopy(other.odds, 0, odds, 0, MOST_VILLAGES);
            System.arraycopy(other.toldTaken, 0, toldTaken, 0, MOONS_TOLD);
        }

        int startAnew(int n) {
            if (n < 1 || n > MOST_VILLAGES) {
                return BAD;
            }
            int was = herd.villages;
            herd.startAnew(n);
            roads.startAnew();
            past.size = 0;
            for (int v = 0; v < MOST_VILLAGES; v++) {
                odds[v] = 0;
            }
            for (int i = 0; i < MOONS_TOLD; i++) {
                toldTaken[i] = 0;
            }
            return was;
        }

        int addLot(int kind, int v, int heads) {
            if (kind < 0 || kind > MOST_KIND || !herd.hasVillage(v) || heads < 0 || heads > MOST_HEADS) {
                return BAD;
            }
            int i = herd.lots;
            if (i >= MOST_LOTS) {
                return FULL;
            }
            herd.kind[i] = kind;
            herd.place[i] = v;
            herd.heads[i] = heads;
            herd.lots = i + 1;
            past.size = 0;
            return i;
        }

        int moveLot(int i, int v) {
            if (!herd.hasLot(i) || !herd.hasVillage(v)) {
                return BAD;
            }
            int was = herd.place[i];
            herd.place[i] = v;
            return was;
        }

        int driveHeads(int i, int j, int k) {
            if (!herd.hasLot(i) || !herd.hasLot(j) || i == j || k < 0) {
                return BAD;
            }
            if (herd.heads[i] < k || herd.heads[j] + k > MOST_HEADS) {
                return NO;
            }
            past.keep(herd);
            herd.heads[i] -= k;
            herd.heads[j] += k;
            return herd.heads[j];
        }

        int dropLot() {
            if (herd.lots <= 0) {
                return NO;
            }
            herd.lots--;
            past.size = 0;
            return herd.lots;
        }

        int setGrowth(int g) {
            if (g < 0 || g > MOST_GROWTH) {
                return BAD;
            }
            int was = herd.growth;
            herd.growth = g;
            return was;
        }

        int setOdds(int v, int c) {
            if (!herd.hasVillage(v) || c < 0 || c > MOST_ODDS) {
                return BAD;
            }
            int was = odds[v];
            odds[v] = c;
            return was;
        }

        int addRoad(int a, int b) {
            return herd.hasPair(a, b) ? roads.add(a, b) : BAD;
        }

        int setGuard(int i, boolean is) {
            if (i < 0 || i >= roads.size) {
                return BAD;
            }
            if (roads.isGuarded(i) == is) {
                return NO;
            }
            roads.guarded ^= 1 << i;
            return 1;
        }

        int setTold(int i, int n) {
            if (i < 0 || i >= MOONS_TOLD || n < 0 || n > MOST_TOLD) {
                return BAD;
            }
            int was = toldTaken[i];
            toldTaken[i] = n;
            return was;
        }

        int passMoon(int clouds, boolean two) {
            if (!herd.hasClouds(clouds)) {
                return BAD;
            }
            past.keep(herd);
            return herd.fullMoon(clouds, two);
        }

        int undoLast() {
            return past.putBack(herd);
        }

        long digestOn(long start) {
            long h = start;
            for (int v = 0; v < herd.villages; v++) {
                h = 31 * h + odds[v];
            }
            for (int i = 0; i < herd.lots; i++) {
                h = 31 * h + herd.kind[i];
                h = 31 * h + herd.place[i];
                h = 31 * h + herd.heads[i];
            }
            for (int i = 0; i < roads.size; i++) {
                h = 31 * h + roads.one[i];
                h = 31 * h + roads.other[i];
                h = 31 * h + (roads.isGuarded(i) ? 1 : 0);
            }
            for (int i = 0; i < MOONS_TOLD; i++) {
                h = 31 * h + toldTaken[i];
            }
            return h;
        }
    }

    /** THE TEXT, and the ITEMS that are read from it. */
    private static final class Scroll {
        static final int COUNTY = 0, LOT = 1, GROWTH = 2, CLOUD = 3, ROAD = 4, GUARD = 5;
        private static final int WORDS = 6;
        private static final int[] NUMBERS_BEHIND = {1, 3, 1, 2, 2, 1};
        private static final int MOST_NUMBERS = 3;
        private static final int MOST_FIGURES = 2;
        // The shortest ITEM, guard0; has seven bytes: 150 bytes hold fewer than these.
        private static final int MOST_ITEMS = 30;

        private static final int END = 0, WORD = 1, NUMBER = 2, STOP = 3, STRANGE = 4;

        private final char[] text = new char[MOST_BYTES];
        int length = 0;
        int items = 0;
        final int[] word = new int[MOST_ITEMS];
        private final int[] numbers = new int[MOST_ITEMS * MOST_NUMBERS];
        /** The TOKEN at hand: its first byte, the byte behind it, its sort, its word or number. */
        private int place = 0;
        private int behind = 0;
        private int sort = END;
        private int value = 0;

        int append(int c) {
            if (c < 0 || c > MOST_BYTE) {
                return BAD;
            }
            if (length >= MOST_BYTES) {
                return FULL;
            }
            text[length] = (char) c;
            length++;
            return length;
        }

        int numberOf(int item, int k) {
            return numbers[item * MOST_NUMBERS + k];
        }

        /** Reads THE TEXT into ITEMS: the FAULT, or NONE. */
        int parse() {
            items = 0;
            behind = 0;
            step();
            for (int i = 0; i < MOST_ITEMS; i++) {
                if (i > 0 && sort == END) {
                    return NONE;
                }
                if (!parseItem(i)) {
                    return place;
                }
                items++;
            }
            return place;
        }

        private boolean parseItem(int i) {
            if (sort != WORD || (value == COUNTY) != (i == 0)) {
                return false;
            }
            word[i] = value;
            int due = NUMBERS_BEHIND[value];
            step();
            for (int k = 0; k < due; k++) {
                if (sort != NUMBER) {
                    return false;
                }
                numbers[i * MOST_NUMBERS + k] = value;
                step();
            }
            if (sort != STOP) {
                return false;
            }
            step();
            return true;
        }

        private void step() {
            place = behind;
            while (place < length && text[place] == ' ') {
                place++;
            }
            behind = place + 1;
            if (place >= length) {
                behind = length;
                sort = END;
            } else if (isLetter(place)) {
                stepOverWord();
            } else if (isFigure(place)) {
                stepOverNumber();
            } else {
                sort = text[place] == ';' ? STOP : STRANGE;
            }
        }

        private void stepOverWord() {
            while (behind < length && isLetter(behind)) {
                behind++;
            }
            sort = STRANGE;
            for (int w = 0; w < WORDS; w++) {
                if (tokenIs(nameOf(w))) {
                    sort = WORD;
                    value = w;
                }
            }
        }

        private void stepOverNumber() {
            value = text[place] - '0';
            while (behind < length && isFigure(behind)) {
                value = value * 10 + text[behind] - '0';
                behind++;
            }
            // All figures in a row are one TOKEN; with a third one it is a number that can stand nowhere.
            sort = behind - place > MOST_FIGURES ? STRANGE : NUMBER;
        }

        private boolean tokenIs(String name) {
            if (behind - place != name.length()) {
                return false;
            }
            for (int i = 0; i < name.length(); i++) {
                if (text[place + i] != name.charAt(i)) {
                    return false;
                }
            }
            return true;
        }

        private boolean isLetter(int i) {
            return i >= 0 && i < length && text[i] >= 'a' && text[i] <= 'z';
        }

        private boolean isFigure(int i) {
            return i >= 0 && i < length && text[i] >= '0' && text[i] <= '9';
        }

        private static String nameOf(int w) {
            switch (w) {
                case COUNTY: return "county";
                case LOT: return "lot";
                case GROWTH: return "growth";
                case CLOUD: return "cloud";
                case ROAD: return "road";
                default: return "guard";
            }
        }
    }

    /** ODDS of CLOUDS: in how many of all cases the dragon takes from each VILLAGE. */
    private static final class Weather {
        private final int[] sight = new int[MOST_VILLAGES];
        private final int[] toll = new int[MOST_VILLAGES];
        final long[] weight = new long[MOST_VILLAGES];
        long whole = 1;
        private int villages = 0;

        /** With a PAINTED LOT more that is seen so in one VILLAGE (NONE: without). */
        void foresee(County county, int painted, int seen) {
            villages = county.herd.villages;
            whole = 1;
            for (int v = 0; v < villages; v++) {
                sight[v] = county.herd.sightOf(v) + (v == painted ? seen : 0);
                toll[v] = county.herd.tollOf(v);
                weight[v] = 0;
                whole *= MOST_ODDS;
            }
            for (int clouds = 0; clouds < 1 << villages; clouds++) {
                int v = Herd.greatestIn(sight, villages, clouds);
                if (v != NONE) {
                    weight[v] += casesOf(clouds, county.odds);
                }
            }
        }

        private long casesOf(int clouds, int[] odds) {
            long cases = 1;
            for (int v = 0; v < villages; v++) {
                cases *= (clouds >> v & 1) == 1 ? odds[v] : MOST_ODDS - odds[v];
            }
            return cases;
        }

        long lossOf(int v) {
            return weight[v] * toll[v];
        }

        long lossOfAll() {
            long sum = 0;
            for (int v = 0; v < villages; v++) {
                sum += lossOf(v);
            }
            return sum;
        }

        int bestPainting(County county, int village, int heads) {
            foresee(county, NONE, 0);
            long leastLoss = lossOf(village);
            int best = NONE;
            for (int v = 0; v < county.herd.villages; v++) {
                foresee(county, v, Kind.seen(Kind.PAINTED, heads, 0));
                if (lossOf(village) < leastLoss) {
                    leastLoss = lossOf(village);
                    best = v;
                }
            }
            return best;
        }
    }

    /** LEAST: tries all moves, fewer and first ones ahead, so that only a lesser toll replaces the best. */
    private static final class Moves {
        private final Herd herd = new Herd();
        private int clouds = 0;
        private final int[] sight = new int[MOST_VILLAGES];
        private final int[] toll = new int[MOST_VILLAGES];
        int best = 0;
        int first = NONE;
        int second = NONE;

        void search(Herd start, int hidden, int m) {
            herd.become(start);
            clouds = hidden;
            for (int v = 0; v < herd.villages; v++) {
                sight[v] = herd.sightOf(v);
                toll[v] = herd.tollOf(v);
            }
            best = takenNow();
            first = NONE;
            second = NONE;
            if (m >= 1) {
                tryLastMove(0, NONE);
            }
            if (m >= 2) {
                tryTwoMoves();
            }
        }

        private void tryTwoMoves() {
            for (int i = 0; i < herd.lots; i++) {
                int home = herd.place[i];
                for (int v = 0; v < herd.villages; v++) {
                    if (v != home) {
                        shift(i, home, v);
                        tryLastMove(i + 1, 10 * i + v);
                        shift(i, v, home);
                    }
                }
            }
        }

        private void tryLastMove(int fromLot, int ahead) {
            for (int i = fromLot; i < herd.lots; i++) {
                int home = herd.place[i];
                for (int v = 0; v < herd.villages; v++) {
                    if (v != home) {
                        shift(i, home, v);
                        weigh(ahead, 10 * i + v);
                        shift(i, v, home);
                    }
                }
            }
        }

        private void weigh(int ahead, int last) {
            int taken = takenNow();
            if (taken < best) {
                best = taken;
                first = ahead == NONE ? last : ahead;
                second = ahead == NONE ? NONE : last;
            }
        }

        private void shift(int i, int a, int b) {
            sight[a] -= herd.seenOf(i);
            sight[b] += herd.seenOf(i);
            toll[a] -= herd.takenOf(i);
            toll[b] += herd.takenOf(i);
        }

        private int takenNow() {
            int v = Herd.greatestIn(sight, herd.villages, clouds);
            return v == NONE ? 0 : toll[v];
        }
    }

    /** GAME of two VILLAGES: how many of 10 HEADS more each one sinks. */
    private static final class Game {
        private static final int CHOICES = 10;
        private int oneSight = 0;
        private int otherSight = 0;
        private boolean oneIsLesser = false;
        int resting = 0;
        int first = NONE;

        void search(Herd herd, int a, int b) {
            oneSight = herd.sightOf(a);
            otherSight = herd.sightOf(b);
            oneIsLesser = a < b;
            resting = 0;
            first = NONE;
            for (int x = 0; x < CHOICES; x++) {
                for (int y = 0; y < CHOICES; y++) {
                    if (rests(x, y)) {
                        first = resting == 0 ? 10 * x + y : first;
                        resting++;
                    }
                }
            }
        }

        private boolean rests(int x, int y) {
            for (int z = 0; z < CHOICES; z++) {
                if (lossOfOne(z, y) < lossOfOne(x, y) || lossOfOther(x, z) < lossOfOther(x, y)) {
                    return false;
                }
            }
            return true;
        }

        private int lossOfOne(int x, int y) {
            return (takesFromOne(x, y) ? 5 : 0) + x / 4;
        }

        private int lossOfOther(int x, int y) {
            return (takesFromOne(x, y) ? 0 : 5) + y / 4;
        }

        private boolean takesFromOne(int x, int y) {
            int one = oneSight + 10 - x + x / 2;
            int other = otherSight + 10 - y + y / 2;
            return one > other || (one == other && oneIsLesser);
        }
    }

    /** CLOUDS THAT FIT: CLOUDS that leave the same VILLAGE as THE GREATEST are gone through at once. */
    private static final class Fit {
        private static final int OUTCOMES = MOST_VILLAGES + 1;
        private final Herd[] ahead = new Herd[MOONS_TOLD + 1];
        private final int[][] ways = new int[MOONS_TOLD][OUTCOMES];
        private final int[][] leastClouds = new int[MOONS_TOLD][OUTCOMES];
        /** The first row of the MOONS from each one on. */
        final int[] first = new int[MOONS_TOLD + 1];

        Fit() {
            for (int i = 0; i <= MOONS_TOLD; i++) {
                ahead[i] = new Herd();
            }
        }

        int search(County county, int m) {
            ahead[0].become(county.herd);
            return rowsFrom(0, m, county.toldTaken);
        }

        private int rowsFrom(int depth, int m, int[] told) {
            first[depth] = 0;
            if (depth >= m || depth >= MOONS_TOLD) {
                return 1;
            }
            sortClouds(depth);
            int rows = 0;
            for (int g = 0; g < OUTCOMES; g++) {
                if (ways[depth][g] > 0) {
                    ahead[depth + 1].become(ahead[depth]);
                    int taken = ahead[depth + 1].fullMoon(leastClouds[depth][g], false);
                    int behind = taken == told[depth] ? rowsFrom(depth + 1, m, told) : 0;
                    if (behind > 0) {
                        int row = (leastClouds[depth][g] << 5 * (m - 1 - depth)) + first[depth + 1];
                        first[depth] = rows == 0 ? row : Math.min(first[depth], row);
                        rows += ways[depth][g] * behind;
                    }
                }
            }
            return rows;
        }

        private void sortClouds(int depth) {
            Herd herd = ahead[depth];
            for (int g = 0; g < OUTCOMES; g++) {
                ways[depth][g] = 0;
            }
            herd.look();
            for (int clouds = 0; clouds < 1 << herd.villages; clouds++) {
                int g = herd.greatestBut(clouds) + 1;
                if (ways[depth][g] == 0) {
                    leastClouds[depth][g] = clouds;
                }
                ways[depth][g]++;
            }
        }
    }
}
