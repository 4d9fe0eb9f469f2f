import java.lang.reflect.InvocationTargetException;
import java.lang.reflect.Method;
import java.math.BigInteger;
import java.util.ArrayList;
import java.util.Arrays;
import java.util.Comparator;
import java.util.List;

/**
 * What the tests of boundary cases share. A test is a static method whose name begins with its promise's number
 * (p05_..). Whether a call changed something is found by a twin: an object made the same way that is not called.
 */
abstract class Edges {
    static final int MAX = Integer.MAX_VALUE, MIN = Integer.MIN_VALUE;
    static final int NONE = -1, BAD = -2, NO = -3, FULL = -4;
    /** Where BAD, NO and FULL are counted; and that nothing is. */
    static final int AS_BAD = 0, AS_NO = 1, AS_FULL = 2, NOT = -1;

    interface Maker { DragonTithe make(); }
    interface Call { long on(DragonTithe x); }
    interface NumberCall { long on(DragonTithe x, int number); }

    private static String test = "";
    private static int wrong = 0;

    Edges() { }

    /** Runs each test of a class; every promise from first to last must have one. */
    static void runAll(Class<?> tests, int first, int last) {
        boolean[] has = new boolean[last + 1];
        int ran = 0;
        Method[] methods = tests.getDeclaredMethods();
        Arrays.sort(methods, Comparator.comparing(Method::getName));
        for (Method m : methods) {
            if (!m.getName().matches("p\\d\\d_.*")) continue;
            int promise = Integer.parseInt(m.getName().substring(1, 3));
            test = m.getName();
            if (promise < first || promise > last) fail("is not of these promises");
            else has[promise] = true;
            ran++;
            run(m);
        }
        for (int p = first; p <= last; p++) if (!has[p]) { test = "promise " + p; fail("has no test"); }
        System.out.println(tests.getName() + ": " + ran + " tests, " + (wrong == 0 ? "all as due" : wrong + " answers are not as due"));
        if (wrong != 0) System.exit(1);
    }

    private static void run(Method m) {
        try {
            m.setAccessible(true);
            m.invoke(null);
        } catch (InvocationTargetException e) {
            fail("threw " + e.getCause());
            e.getCause().printStackTrace(System.out);
        } catch (IllegalAccessException e) {
            fail("can not be called");
        }
    }

    private static void fail(String what) {
        wrong++;
        System.out.println(test + ": " + what);
    }

    static void due(String what, long got, long want) {
        if (got != want) fail(what + " answered " + got + ", due is " + want);
    }

    // ---- counties to start from

    static DragonTithe fresh() { return new DragonTithe(); }

    static Maker county(int n) {
        return () -> { DragonTithe x = new DragonTithe(); x.county(n); return x; };
    }

    /** LIVING LOTS, one in each VILLAGE from 0 on, with these HEADS. */
    static Maker living(int... heads) {
        return () -> {
            DragonTithe x = new DragonTithe();
            x.county(heads.length);
            for (int v = 0; v < heads.length; v++) x.lot(0, v, heads[v]);
            return x;
        };
    }

    /**
     * Three VILLAGES, six LOTS, two ROADS; each part of the state has something that could get lost. In the end:
     * LOTS LIVING 0 26, SUNK 0 46, PAINTED 1 30, LENT 2 33, RUNT 2 60, DECOY 1 2; SIGHTS 49, 64, 48; GROWTH 3;
     * ROADS 0 1, and 2 1 guarded; ODDS 2, 5, 0; MOON 2; 4 may be undone; 36 bytes; IMAGE 0; 7 by 10; each reason once.
     */
    static DragonTithe rich() { return madeRich(new DragonTithe()); }

    /** How many calls madeRich makes. */
    static final int RICH_CALLS = 71;

    /** From three VILLAGES without LOTS and an empty TEXT on. */
    static DragonTithe madeRich(DragonTithe x) {
        for (int i = 0; i < 11; i++) x.lot(0, 0, 0);
        x.county(3);
        int[][] lots = {{0, 0, 30}, {1, 0, 30}, {2, 1, 30}, {3, 2, 41}, {4, 2, 55}, {5, 1, 3}};
        for (int[] l : lots) x.lot(l[0], l[1], l[2]);
        x.road(0, 1); x.road(2, 1); x.road(1, 0); x.guard(1, true);
        x.growth(3); x.cloud(0, 2); x.cloud(1, 5); x.told(0, 8); x.told(1, 999); x.told(2, 1);
        x.moon(2, false);
        x.image(0);
        x.drive(0, 1, 10); x.moon(1, true); x.drive(3, 4, 5);
        type(x, "county 2;lot 0 1 7;road 1 0;guard 0;");
        x.mean(2); x.lot(9, 0, 0);
        return x;
    }

    /** So many LIVING LOTS of 20 HEADS and more in three VILLAGES. */
    static Maker lots(int many) {
        return () -> {
            DragonTithe x = new DragonTithe();
            for (int i = 0; i < many; i++) x.lot(0, i % 3, 20 + i);
            return x;
        };
    }

    /** LIVING LOTS of 50 HEADS, one in each of n VILLAGES. */
    static Maker fifties(int n) {
        int[] heads = new int[n];
        Arrays.fill(heads, 50);
        return living(heads);
    }

    /** n VILLAGES with a ROAD between any two of them: 0 1, 0 2, .. */
    static Maker allRoads(int n) {
        return () -> {
            DragonTithe x = new DragonTithe();
            x.county(n);
            for (int a = 0; a < n; a++) for (int b = a + 1; b < n; b++) x.road(a, b);
            return x;
        };
    }

    static Maker moons(Maker start, int many) {
        return () -> {
            DragonTithe x = start.make();
            for (int i = 0; i < many; i++) x.moon(0, false);
            return x;
        };
    }

    static Maker with(Maker start, Call... calls) {
        return () -> {
            DragonTithe x = start.make();
            for (Call c : calls) c.on(x);
            return x;
        };
    }

    static Maker text(Maker start, String text) {
        return () -> { DragonTithe x = start.make(); x.clear(); type(x, text); return x; };
    }

    static void type(DragonTithe x, String text) {
        for (int i = 0; i < text.length(); i++) x.type(text.charAt(i));
    }

    static String blanks(int n) { return " ".repeat(n); }

    // ---- what can be seen of an object

    /** The digest without THE FRACTION, which stands at its end. */
    static long bareDigest(DragonTithe x) { return x.digest() - 31 * x.part(0) - x.part(1); }

    /** All that calls can find out, but STATUS and THE FRACTION; the object is used up by it. */
    static List<Long> drain(DragonTithe x) {
        List<Long> seen = new ArrayList<>();
        for (int i = 0; i < 7; i++) seen.add((long) x.count(i));
        drainPast(x, seen);
        for (int image = 0; image < 2; image++) {
            seen.add((long) x.from(image));
            drainPast(x, seen);
        }
        seen.add((long) x.read());
        drainPast(x, seen);
        seen.add((long) x.clear());
        return seen;
    }

    private static void drainPast(DragonTithe x, List<Long> seen) {
        seen.add(bareDigest(x));
        for (int i = 0; i < 12 && x.undo() == 1; i++) seen.add(bareDigest(x));
    }

    static long[] status(DragonTithe x) { return new long[] {x.status(0), x.status(1), x.status(2)}; }

    static void status(DragonTithe x, long bad, long no, long full) {
        due("STATUS BAD", x.status(0), bad);
        due("STATUS NO", x.status(1), no);
        due("STATUS FULL", x.status(2), full);
    }

    static void fraction(DragonTithe x, long above, long below) {
        due("above", x.part(0), above);
        due("below", x.part(1), below);
    }

    private static void sameBut(String what, DragonTithe x, DragonTithe twin, int reason) {
        long[] got = status(x), want = status(twin);
        if (reason != NOT) want[reason]++;
        if (!Arrays.equals(got, want)) fail(what + ": STATUS is " + Arrays.toString(got) + ", due is " + Arrays.toString(want));
        if (!drain(x).equals(drain(twin))) fail(what + " changed something");
    }

    // ---- kinds of questions

    /** Refused: the answer is due, the reason is counted once, nothing else changes. */
    static void refused(String what, Maker maker, Call call, long want, int reason) {
        DragonTithe x = maker.make(), twin = maker.make();
        due(what, call.on(x), want);
        fraction(x, twin.part(0), twin.part(1));
        sameBut(what, x, twin, reason);
    }

    /** Not refused, and changes nothing. */
    static void asks(String what, Maker maker, Call call, long want) {
        refused(what, maker, call, want, NOT);
    }

    /** Not refused: 1, and nothing changes but THE FRACTION. */
    static void makes(String what, Maker maker, Call call, long above, long below) {
        DragonTithe x = maker.make(), twin = maker.make();
        due(what, call.on(x), 1);
        fraction(x, above, below);
        sameBut(what, x, twin, NOT);
    }

    /** Not refused; what it changes is asked by the test. */
    static DragonTithe taken(String what, Maker maker, Call call, long want) {
        DragonTithe x = maker.make();
        long[] before = status(x);
        due(what, call.on(x), want);
        if (!Arrays.equals(before, status(x))) fail(what + " counted as refused");
        return x;
    }

    /** Both ends of what may be told are taken; the next number on each side, and far ones, are refused as BAD. */
    static void ends(Maker maker, NumberCall call, int low, long dueLow, int high, long dueHigh, long bad) {
        taken("with " + low, maker, x -> call.on(x, low), dueLow);
        taken("with " + high, maker, x -> call.on(x, high), dueHigh);
        outside(maker, call, low, high, bad);
    }

    static void outside(Maker maker, NumberCall call, int low, int high, long bad) {
        int[] others = {low - 1, high + 1, low - 2, high + 2, low + 256, high - 256, low + 65536, MAX, MAX - 1, MIN, MIN + 1};
        for (int k : others) {
            if (k < low || k > high) refused("with " + k, maker, x -> call.on(x, k), bad, AS_BAD);
        }
    }

    /** h = 853, then h = 31 h + v, without an end; what is left of it in 64 bits. */
    static long digestOf(long... row) {
        BigInteger h = BigInteger.valueOf(853);
        for (long v : row) h = h.multiply(BigInteger.valueOf(31)).add(BigInteger.valueOf(v));
        return h.longValue();
    }
}
