import java.util.ArrayList;
import java.util.List;

/**
 * Runs of 512 calls on one object, as many as it is used for: what a promise says holds at the last ones, too. The dues
 * were worked out by hand from the document; those of a rich county stand at Edges.rich.
 */
public final class LongRunsTest extends Edges {
    private static final int CALLS = 512;
    private static final long[] RICH = {3, 6, 2, 2, 4, 36, 3, 2, 5, 0, 0, 0, 26, 1, 0, 46, 2, 1, 30, 3, 2, 33, 4, 2, 60, 5, 1, 2,
        0, 1, 0, 2, 1, 1, 8, 999, 1, 7, 10};
    private static final Call[] BUSY = busy();

    public static void main(String[] args) {
        runAll(LongRunsTest.class, 1, 37);
    }

    /** An object, and how many calls it has had; each call that is told here makes one. */
    private static final class Run {
        final DragonTithe x = new DragonTithe();
        int calls = 0;

        Run call(String what, Call call, long want) {
            calls++;
            due("call " + calls + ", " + what, call.on(x), want);
            return this;
        }

        long call(Call call) {
            calls++;
            return call.on(x);
        }

        Run busy(int many) {
            for (int i = 0; i < many; i++) call(BUSY[i % BUSY.length]);
            return this;
        }

        Run type(String text) {
            for (int i = 0; i < text.length(); i++) {
                int at = i;
                call("byte " + at, y -> y.type(text.charAt(at)), at + 1);
            }
            return this;
        }

        int left() { return CALLS - calls; }

        void ends() { due("calls in all", calls, CALLS); }
    }

    /** Calls of every sort, none of them refused; the row may be gone through again and again. */
    private static Call[] busy() {
        List<Call> row = new ArrayList<>();
        row.add(x -> x.county(5));
        row.add(DragonTithe::clear);
        for (int i = 0; i < 10; i++) {
            int lot = i;
            row.add(x -> x.lot(lot % 6, lot % 5, 99 - lot));
        }
        for (int a = 0; a < 5; a++) {
            for (int b = 0; b < a; b++) {
                int one = a, other = b;
                row.add(x -> x.road(one, other));
            }
        }
        for (int v = 0; v < 5; v++) {
            int village = v;
            row.add(x -> x.cloud(village, 10 - village));
        }
        for (int i = 0; i < 3; i++) {
            int moon = i;
            row.add(x -> x.told(moon, 333 * moon));
        }
        for (char c : "county 5;lot 5 4 99;road 4 0;guard 0;".toCharArray()) row.add(x -> x.type(c));
        addOthers(row);
        return row.toArray(new Call[0]);
    }

    private static void addOthers(List<Call> row) {
        row.add(x -> x.guard(9, true));
        row.add(x -> x.growth(9));
        row.add(x -> x.image(0));
        row.add(x -> x.moon(0, true));
        row.add(x -> x.moon(31, false));
        row.add(x -> x.drive(4, 5, 1));
        row.add(DragonTithe::undo);
        row.add(x -> x.move(0, 4));
        row.add(x -> x.of(9, 3));
        row.add(x -> x.village(4, 0));
        row.add(x -> x.greatest(5));
        row.add(x -> x.least(3, 2, 2));
        row.add(x -> x.chance(2));
        row.add(x -> x.painting(1, 99));
        row.add(x -> x.unseen(0, 4));
        row.add(x -> x.cut(1, 3, 1));
        row.add(x -> x.game(4, 2, 1));
        row.add(x -> x.league(21));
        row.add(x -> x.share(3));
        row.add(x -> x.pays(2, 40));
        row.add(x -> x.fit(3, 0));
        row.add(x -> x.drawn(60, 999999));
        row.add(x -> x.mean(NONE));
        row.add(x -> x.from(0));
        row.add(DragonTithe::drop);
        row.add(DragonTithe::read);
        row.add(x -> x.part(0));
        row.add(x -> x.status(0));
        row.add(x -> x.count(4));
        row.add(DragonTithe::digest);
    }

    /** A rich county that has had so many calls. */
    private static DragonTithe used(int calls) {
        Run run = new Run().busy(calls - RICH_CALLS - 2);
        run.call(x -> x.county(3));
        run.call(DragonTithe::clear);
        return madeRich(run.x);
    }

    /** The answer as the 512th call; as the 511th, what it changes is as on an object that had few calls. */
    private static void last(String what, Call call, long want) {
        due(what + " as the 512th call", call.on(used(CALLS - 1)), want);
        DragonTithe twin = rich();
        call.on(twin);
        long digest = twin.digest();
        long[] status = status(twin);
        DragonTithe x = used(CALLS - 2);
        call.on(x);
        due("digest behind " + what, x.digest(), digest);
        for (int reason = 0; reason < 3; reason++) {
            x = used(CALLS - 2);
            call.on(x);
            due("STATUS " + reason + " behind " + what, x.status(reason), status[reason]);
        }
    }

    /** Two questions by turns on a rich county up to the 511th call: always the same; then the digest. */
    private static void byTurns(Call one, long wantOne, Call other, long wantOther, long above, long below) {
        Run run = new Run();
        madeRich(run.x);
        run.calls = RICH_CALLS;
        while (run.left() > 1) {
            boolean first = run.left() % 2 == 1;
            run.call(first ? "the one" : "the other", first ? one : other, first ? wantOne : wantOther);
        }
        long[] row = RICH.clone();
        row[row.length - 2] = above;
        row[row.length - 1] = below;
        run.call("digest()", DragonTithe::digest, digestOf(row)).ends();
    }

    private static void byTurns(Call one, long wantOne, Call other, long wantOther) {
        byTurns(one, wantOne, other, wantOther, 7, 10);
    }

    // ---- 1 to 10 a county

    static void p01_beside_one_that_is_used_up() {
        DragonTithe x = used(CALLS - 1), other = fresh();
        due("digest of a new one", other.digest(), digestOf(3, 0, 0, 0, 0, 0, 0, 0, 0, 0, 0, 0, 0, 0, 1));
        status(other, 0, 0, 0);
        due("from(0) of a new one", other.from(0), NO);
        due("digest of the old one", x.digest(), digestOf(RICH));
    }

    static void p01_is_as_told_when_511_questions_were_asked() {
        Run run = new Run();
        while (run.left() > 1) run.call("count(0)", x -> x.count(0), 3);
        run.call("digest()", DragonTithe::digest, digestOf(3, 0, 0, 0, 0, 0, 0, 0, 0, 0, 0, 0, 0, 0, 1)).ends();
    }

    static void p02_as_the_512th_call() {
        last("county(5)", x -> x.county(5), 3);
        last("county(6)", x -> x.county(6), BAD);
    }

    static void p02_511_counties() {
        Run run = new Run();
        int was = 3;
        while (run.left() > 1) {
            int n = 1 + run.calls * 3 % 5;
            run.call("county(" + n + ")", x -> x.county(n), was);
            was = n;
        }
        run.call("count(0)", x -> x.count(0), was).ends();
    }

    static void p03_as_the_512th_call() {
        last("lot(5, 2, 99)", x -> x.lot(5, 2, 99), 6);
        last("lot(6, 0, 0)", x -> x.lot(6, 0, 0), BAD);
    }

    static void p03_full_501_times() {
        Run run = new Run();
        for (int i = 0; i < 10; i++) run.call("lot(0, 0, 1)", x -> x.lot(0, 0, 1), i);
        while (run.left() > 1) run.call("lot(0, 0, 1)", x -> x.lot(0, 0, 1), FULL);
        run.call("status(2)", x -> x.status(2), 501).ends();
    }

    static void p04_as_the_512th_call() {
        last("move(0, 2)", x -> x.move(0, 2), 0);
        last("move(6, 0)", x -> x.move(6, 0), BAD);
    }

    static void p04_round_and_round() {
        Run run = new Run();
        run.call("lot(0, 2, 5)", x -> x.lot(0, 2, 5), 0);
        while (run.left() > 1) {
            int to = (run.calls - 1) % 3;
            run.call("move(0, " + to + ")", x -> x.move(0, to), (to + 2) % 3);
        }
        run.call("of(0, 1)", x -> x.of(0, 1), 2).ends();
    }

    static void p05_as_the_512th_call() {
        last("drive(1, 4, 39)", x -> x.drive(1, 4, 39), 99);
        last("drive(1, 4, 40)", x -> x.drive(1, 4, 40), NO);
        last("drive(0, 0, 1)", x -> x.drive(0, 0, 1), BAD);
    }

    /** 99 there and back, 254 times; the last ten may be undone. */
    static void p05_there_and_back() {
        Run run = new Run();
        run.call("lot(0, 0, 99)", x -> x.lot(0, 0, 99), 0).call("lot(5, 1, 0)", x -> x.lot(5, 1, 0), 1);
        for (int i = 0; i < 254; i++) {
            run.call("drive(0, 1, 99)", x -> x.drive(0, 1, 99), 99).call("drive(1, 0, 99)", x -> x.drive(1, 0, 99), 99);
        }
        run.call("count(4)", x -> x.count(4), 10).call("of(1, 2)", x -> x.of(1, 2), 0).ends();
    }

    static void p06_as_the_512th_call() {
        last("drop()", DragonTithe::drop, 5);
    }

    static void p06_come_and_go() {
        Run run = new Run();
        for (int i = 0; i < 255; i++) run.call("lot(0, 0, 9)", x -> x.lot(0, 0, 9), 0).call("drop()", DragonTithe::drop, 0);
        run.call("drop()", DragonTithe::drop, NO).call("status(1)", x -> x.status(1), 1).ends();
    }

    static void p07_as_the_512th_call() {
        last("growth(9)", x -> x.growth(9), 3);
        last("growth(10)", x -> x.growth(10), BAD);
    }

    static void p08_as_the_512th_call() {
        last("cloud(1, 10)", x -> x.cloud(1, 10), 5);
        last("cloud(3, 0)", x -> x.cloud(3, 0), BAD);
    }

    static void p09_as_the_512th_call() {
        last("road(0, 2)", x -> x.road(0, 2), 2);
        last("road(1, 2)", x -> x.road(1, 2), NO);
        last("road(1, 1)", x -> x.road(1, 1), BAD);
    }

    static void p09_there_is_one_500_times() {
        Run run = new Run();
        run.call("county(5)", x -> x.county(5), 3);
        for (int a = 0, k = 0; a < 5; a++) {
            for (int b = a + 1; b < 5; b++, k++) {
                int one = a, other = b;
                run.call("road", x -> x.road(one, other), k);
            }
        }
        while (run.left() > 1) {
            int a = run.calls % 5, b = (a + 1 + run.calls / 5 % 4) % 5;
            run.call("road(" + a + ", " + b + ")", x -> x.road(a, b), NO);
        }
        run.call("status(1)", x -> x.status(1), 500).ends();
    }

    static void p10_as_the_512th_call() {
        last("guard(0, true)", x -> x.guard(0, true), 1);
        last("guard(1, false)", x -> x.guard(1, false), 1);
        last("guard(1, true)", x -> x.guard(1, true), NO);
        last("guard(2, true)", x -> x.guard(2, true), BAD);
    }

    static void p10_on_and_off() {
        Run run = new Run();
        run.call("road(0, 1)", x -> x.road(0, 1), 0).call("road(1, 2)", x -> x.road(1, 2), 1);
        for (int i = 0; i < 254; i++) {
            run.call("guard(1, true)", x -> x.guard(1, true), 1).call("guard(1, false)", x -> x.guard(1, false), 1);
        }
        run.call("guard(1, false)", x -> x.guard(1, false), NO).call("unseen(0, 2)", x -> x.unseen(0, 2), 2).ends();
    }

    // ---- 11 to 13 THE TEXT

    static void p11_as_the_512th_call() {
        last("type(127)", x -> x.type(127), 37);
        last("type(128)", x -> x.type(128), BAD);
    }

    static void p11_full_361_times() {
        Run run = new Run();
        for (int i = 1; i <= 150; i++) run.call("type(0)", x -> x.type(0), i);
        while (run.left() > 1) run.call("type(0)", x -> x.type(0), FULL);
        run.call("status(2)", x -> x.status(2), 361).ends();
    }

    static void p12_as_the_512th_call() {
        last("clear()", DragonTithe::clear, 36);
    }

    static void p12_full_and_empty_again() {
        Run run = new Run();
        for (int i = 0; i < 3; i++) {
            run.type("z".repeat(150)).call("type(32)", x -> x.type(32), FULL).call("clear()", DragonTithe::clear, 150);
        }
        while (run.left() > 2) run.call("type(32)", x -> x.type(32), 1).call("clear()", DragonTithe::clear, 1);
        run.call("count(5)", x -> x.count(5), 0).call("status(2)", x -> x.status(2), 3).ends();
    }

    static void p13_as_the_512th_call() {
        last("read()", DragonTithe::read, 4);
    }

    /** 143 bytes, 19 ITEMS: nine ROADS, each guarded. */
    private static String guardedRoads() {
        StringBuilder s = new StringBuilder("county5;");
        for (int a = 0, k = 0; a < 5; a++) {
            for (int b = a + 1; b < 5 && k < 9; b++, k++) s.append("road").append(a).append(' ').append(b).append(";guard").append(k).append(';');
        }
        return s.toString();
    }

    /** 8 bytes and ITEMS of 8 bytes each. */
    private static String growths(int items) { return "county1;" + "growth1;".repeat(items); }

    private static String tenLots() { return "county5;" + "lot0 0 9;".repeat(10); }

    /** Full ones with a FAULT far behind, and where it is. */
    private static final Object[][] FAULTS = {
        {growths(17) + blanks(5) + "#", 149},
        {growths(17) + blanks(5) + ";", 149},
        {growths(17) + blanks(5) + "7", 149},
        {growths(17) + blanks(5) + "x", 149},
        {growths(17) + "growtx", 144},
        {growths(17) + "growth", 150},
        {growths(17) + "guard0", 150},
        {growths(17) + "road 0", 150},
        {growths(17) + "guard;", 149},
        {growths(17) + "lot0;0", 148},
        {growths(17) + "lot000", 147},
        {growths(16) + blanks(6) + "county1;", 142},
        {growths(16) + "growth    100;", 146},
        {growths(16) + "growth    1 0;", 148},
        {guardedRoads() + "guard9 ", 150},
        {guardedRoads() + "guard;;", 148},
        {tenLots() + blanks(40) + "lot 0 0 0;;;", 148},
        {"county9;" + "guard0;".repeat(20) + ";;", 148},
        {blanks(142) + "county1.", 149},
        {blanks(143) + "countyx", 143},
        {blanks(143) + "county;", 149},
    };

    /** Full ones with a refused ITEM far behind, and its number. */
    private static final Object[][] REFUSED = {
        {guardedRoads() + "guard8;", 19},
        {guardedRoads() + "guard9;", 19},
        {growths(16) + "growth     10;", 17},
        {growths(16) + "cloud   1   0;", 17},
        {growths(16) + "cloud   0  11;", 17},
        {growths(16) + "road    0   0;", 17},
        {growths(16) + "lot  0  1   0;", 17},
        {growths(16) + "lot  6  0   0;", 17},
        {growths(15) + blanks(15) + "guard0;", 16},
        {tenLots() + "growth1;".repeat(5) + "lot 0 0 99 ;", 16},
        {tenLots() + blanks(43) + "lot0 0 9;", 11},
        {blanks(142) + "county6;", 0},
        {blanks(141) + "county 0;", 0},
    };

    /** Full ones that hold, and how many ITEMS they have. */
    private static final Object[][] TAKEN = {
        {guardedRoads() + blanks(7), 19},
        {blanks(7) + guardedRoads(), 19},
        {growths(17) + blanks(6), 18},
        {growths(16) + "growth      9;", 18},
        {tenLots() + "growth1;".repeat(5) + "growth    9;", 17},
        {blanks(142) + "county4;", 1},
        {"county" + blanks(142) + "2;", 1},
    };

    private static void full(Object[] row) { due("bytes of " + row[0], ((String) row[0]).length(), 150); }

    private static void fullReadAsTheLastCall(Object[] row, int want) {
        full(row);
        Run run = new Run().busy(CALLS - 152);
        run.call(DragonTithe::clear);
        run.type((String) row[0]).call("read() of '" + row[0] + "'", DragonTithe::read, want).ends();
    }

    static void p13_full_with_a_fault_far_behind_as_the_512th_call() {
        for (Object[] row : FAULTS) fullReadAsTheLastCall(row, -10 - (int) row[1]);
    }

    static void p13_full_with_a_refused_item_far_behind_as_the_512th_call() {
        for (Object[] row : REFUSED) fullReadAsTheLastCall(row, -1000 - (int) row[1]);
    }

    static void p13_full_and_taken_as_the_512th_call() {
        for (Object[] row : TAKEN) fullReadAsTheLastCall(row, (int) row[1]);
    }

    /** A county of 47 calls: as many LOTS and ROADS as there can be, ten MOONS that may be undone, IMAGE 0. */
    private static Run fullCounty() {
        Run run = new Run();
        run.call("county(5)", x -> x.county(5), 3);
        for (int i = 0; i < 10; i++) {
            int lot = i;
            run.call("lot", x -> x.lot(lot % 6, lot % 5, 90 + lot), lot);
        }
        for (int a = 4, k = 0; a > 0; a--) {
            for (int b = 0; b < a; b++, k++) {
                int one = a, other = b;
                run.call("road", x -> x.road(one, other), k);
            }
        }
        for (int i = 0; i < 5; i++) {
            int k = i;
            run.call("guard", x -> x.guard(2 * k, true), 1).call("cloud", x -> x.cloud(k, k), 0);
        }
        for (int i = 0; i < 3; i++) {
            int moon = i;
            run.call("told", x -> x.told(moon, 100 * moon), 0);
        }
        run.call("growth(1)", x -> x.growth(1), 0);
        for (int i = 0; i < 10; i++) run.call("moon(31, false)", x -> x.moon(31, false), 0);
        return run.call("mean(NONE)", x -> x.mean(NONE), 1).call("image(0)", x -> x.image(0), 1);
    }

    /** Three full TEXTS on one object: a FAULT, a refused ITEM, then one that is taken; the IMAGE brings all back. */
    static void p13_three_full_texts_in_512_calls() {
        for (int i = 0; i < FAULTS.length; i++) {
            Object[] fault = FAULTS[i], refused = REFUSED[i % REFUSED.length], taken = TAKEN[i % TAKEN.length];
            Run run = fullCounty();
            long before = run.call(DragonTithe::digest);
            run.type((String) fault[0]).call("read() of '" + fault[0] + "'", DragonTithe::read, -10 - (int) fault[1]);
            run.call("clear()", DragonTithe::clear, 150).call("digest() behind a FAULT", DragonTithe::digest, before);
            run.type((String) refused[0]).call("read() of '" + refused[0] + "'", DragonTithe::read, -1000 - (int) refused[1]);
            run.call("clear()", DragonTithe::clear, 150).call("digest() behind a refused ITEM", DragonTithe::digest, before);
            run.type((String) taken[0]).call("read() of '" + taken[0] + "'", DragonTithe::read, (int) taken[1]);
            run.call("clear()", DragonTithe::clear, 150).call("count(4)", x -> x.count(4), 0);
            run.call("status(0)", x -> x.status(0), 0).call("status(1)", x -> x.status(1), 0).call("status(2)", x -> x.status(2), 0);
            run.call("from(0)", x -> x.from(0), 1).call("digest() from the IMAGE", DragonTithe::digest, before).ends();
        }
    }

    /** The county that a full TEXT told stays when the next ones have a FAULT or a refused ITEM; each is read to the end. */
    static void p13_a_full_text_holds_behind_others_that_do_not() {
        long[] row = new long[7 + 5 + 27 + 3 + 2];
        int[] roads = {0, 1, 0, 2, 0, 3, 0, 4, 1, 2, 1, 3, 1, 4, 2, 3, 2, 4};
        row[0] = 5;
        row[2] = 9;
        row[5] = 150;
        for (int k = 0; k < 9; k++) {
            row[12 + 3 * k] = roads[2 * k];
            row[13 + 3 * k] = roads[2 * k + 1];
            row[14 + 3 * k] = 1;
        }
        row[row.length - 1] = 1;
        Run run = new Run();
        run.type(guardedRoads() + blanks(7)).call("read()", DragonTithe::read, 19).call("digest()", DragonTithe::digest, digestOf(row));
        for (int i = 0; i < 26; i++) run.call("read() again", DragonTithe::read, 19);
        run.call("clear()", DragonTithe::clear, 150);
        run.type(tenLots() + blanks(43) + "lot0 0 9;").call("read()", DragonTithe::read, -1011);
        run.call("digest()", DragonTithe::digest, digestOf(row)).call("clear()", DragonTithe::clear, 150);
        run.type(growths(17) + blanks(5) + "#");
        while (run.left() > 1) run.call("read()", DragonTithe::read, -159);
        run.call("digest()", DragonTithe::digest, digestOf(row)).ends();
    }

    // ---- 14 to 18 moons

    static void p14_as_the_512th_call() {
        last("moon(0, false)", x -> x.moon(0, false), 1);
        last("moon(0, true)", x -> x.moon(0, true), 9);
        last("moon(7, true)", x -> x.moon(7, true), 0);
        last("moon(8, true)", x -> x.moon(8, true), BAD);
    }

    /** 99 HEADS lose 10 and grow by 9, one less each time; from 90 on they lose 9. */
    static void p14_508_moons() {
        Run run = new Run();
        run.call("county(1)", x -> x.county(1), 3).call("growth(9)", x -> x.growth(9), 0).call("lot", x -> x.lot(0, 0, 99), 0);
        for (int i = 0; i < 508; i++) run.call("moon(0, false)", x -> x.moon(0, false), i < 9 ? 10 : 9);
        run.call("count(3)", x -> x.count(3), 508).ends();
    }

    /** LENT HEADS grow by 5 twice ahead of each MOON in which they are seen: from 91 to 99 they lose 10 then, for good. */
    static void p14_lent_in_the_509th_moon() {
        Run run = new Run();
        run.call("county(1)", x -> x.county(1), 3).call("growth(5)", x -> x.growth(5), 0).call("lot", x -> x.lot(3, 0, 95), 0);
        for (int i = 0; i < 509; i++) run.call("moon(0, true)", x -> x.moon(0, true), i % 2 == 0 ? 10 : 0);
        run.ends();
    }

    static void p15_as_the_512th_call() {
        last("undo()", DragonTithe::undo, 1);
    }

    static void p15_a_moon_and_undone_254_times() {
        Run run = new Run();
        run.call("lot(0, 0, 99)", x -> x.lot(0, 0, 99), 0).call("growth(9)", x -> x.growth(9), 0);
        for (int i = 0; i < 254; i++) run.call("moon(0, false)", x -> x.moon(0, false), 10).call("undo()", DragonTithe::undo, 1);
        run.call("undo()", DragonTithe::undo, NO).call("of(0, 2)", x -> x.of(0, 2), 99).ends();
    }

    /** Of 490 MOONS the last ten: each undone one leads to the one ahead of it. */
    static void p15_ten_of_490_moons() {
        Run run = new Run();
        run.call("lot(5, 0, 99)", x -> x.lot(5, 0, 99), 0);
        for (int i = 0; i < 490; i++) run.call("moon(0, false)", x -> x.moon(0, false), i < 99 ? 1 : 0);
        for (int i = 1; i <= 10; i++) run.call("undo()", DragonTithe::undo, 1).call("count(3)", x -> x.count(3), 490 - i);
        run.call("undo()", DragonTithe::undo, NO).ends();
    }

    static void p16_as_the_512th_call() {
        last("of(4, 3)", x -> x.of(4, 3), 15);
        last("of(6, 0)", x -> x.of(6, 0), BAD);
        byTurns(x -> x.of(3, 3), 33, x -> x.of(3, 4), 4);
    }

    static void p17_as_the_512th_call() {
        last("village(2, 1)", x -> x.village(2, 1), 93);
        last("village(3, 1)", x -> x.village(3, 1), BAD);
        byTurns(x -> x.village(0, 0), 49, x -> x.village(1, 1), 32);
    }

    static void p18_as_the_512th_call() {
        last("greatest(0)", x -> x.greatest(0), 1);
        last("greatest(7)", x -> x.greatest(7), NONE);
        last("greatest(8)", x -> x.greatest(8), -10);
        byTurns(x -> x.greatest(2), 0, x -> x.greatest(3), 2);
    }

    // ---- 19 to 31 what to do

    static void p19_as_the_512th_call() {
        last("least(0, 2, 0)", x -> x.least(0, 2, 0), 1);
        last("least(0, 3, 0)", x -> x.least(0, 3, 0), -10);
        // By CLOUDS 2 VILLAGE 0 is the greatest and loses 3 and 5.
        byTurns(x -> x.least(2, 0, 0), 8, x -> x.least(7, 2, 1), NONE);
    }

    static void p20_as_the_512th_call() {
        last("chance(1)", x -> x.chance(1), 1);
        last("chance(3)", x -> x.chance(3), BAD);
        byTurns(x -> x.chance(0), 1, x -> x.chance(1), 1, 1, 2);
    }

    static void p21_as_the_512th_call() {
        last("mean(NONE)", x -> x.mean(NONE), 1);
        last("mean(3)", x -> x.mean(3), BAD);
        byTurns(x -> x.mean(1), 1, x -> x.mean(0), 1, 16, 5);
    }

    static void p22_as_the_512th_call() {
        // 0 is taken from only if 1 is hidden; 2 is never hidden, and seen more with the painting.
        last("painting(0, 99)", x -> x.painting(0, 99), 2);
        last("painting(2, 99)", x -> x.painting(2, 99), NONE);
        last("painting(0, 100)", x -> x.painting(0, 100), BAD);
        byTurns(x -> x.painting(0, 0), 2, x -> x.painting(2, 99), NONE);
    }

    static void p23_as_the_512th_call() {
        last("unseen(0, 1)", x -> x.unseen(0, 1), 1);
        last("unseen(0, 2)", x -> x.unseen(0, 2), NONE);
        last("unseen(0, 0)", x -> x.unseen(0, 0), BAD);
        byTurns(x -> x.unseen(1, 0), 1, x -> x.unseen(2, 1), NONE);
    }

    static void p24_as_the_512th_call() {
        last("cut(0, 1, 0)", x -> x.cut(0, 1, 0), 1);
        last("cut(0, 2, 1)", x -> x.cut(0, 2, 1), 3);
        last("cut(0, 0, 1)", x -> x.cut(0, 0, 1), BAD);
        byTurns(x -> x.cut(1, 0, 1), 2, x -> x.cut(1, 2, 0), 0);
    }

    static void p25_as_the_512th_call() {
        last("game(0, 1, 0)", x -> x.game(0, 1, 0), 16);
        last("game(0, 2, 1)", x -> x.game(0, 2, 1), NONE);
        last("game(0, 0, 1)", x -> x.game(0, 0, 1), -10);
        byTurns(x -> x.game(1, 2, 0), 16, x -> x.game(2, 0, 0), 0);
    }

    static void p26_as_the_512th_call() {
        last("league(5)", x -> x.league(5), 8);
        last("league(8)", x -> x.league(8), BAD);
        byTurns(x -> x.league(7), 1, x -> x.league(4), 7);
    }

    static void p27_as_the_512th_call() {
        last("share(1)", x -> x.share(1), 1);
        last("share(3)", x -> x.share(3), BAD);
        byTurns(x -> x.share(0), 1, x -> x.share(1), 1, -25, 6);
    }

    static void p28_as_the_512th_call() {
        // 1 is the greatest; neither its PAINTED LOT nor its DECOY, which loses one, grows.
        last("pays(1, 1)", x -> x.pays(1, 1), NONE);
        last("pays(2, 1)", x -> x.pays(2, 1), 0);
        last("pays(2, 41)", x -> x.pays(2, 41), BAD);
        byTurns(x -> x.pays(0, 0), 0, x -> x.pays(1, 40), NONE);
    }

    static void p29_as_the_512th_call() {
        last("told(1, 0)", x -> x.told(1, 0), 999);
        last("told(1, 1000)", x -> x.told(1, 1000), BAD);
    }

    static void p30_as_the_512th_call() {
        // 8 are TAKEN of 0, if 1 is hidden and 0 is not: CLOUDS 2 and 6.
        last("fit(1, 0)", x -> x.fit(1, 0), 2);
        last("fit(3, 1)", x -> x.fit(3, 1), NONE);
        last("fit(0, 0)", x -> x.fit(0, 0), -10);
        byTurns(x -> x.fit(1, 1), 2, x -> x.fit(2, 0), 0);
    }

    static void p31_as_the_512th_call() {
        // SEED 0 leaves 0, 8, 8 for the three VILLAGES, whose c are 2, 5, 0: 0 is hidden; 1, the greatest, is not.
        last("drawn(1, 0)", x -> x.drawn(1, 0), 1);
        last("drawn(61, 0)", x -> x.drawn(61, 0), BAD);
        byTurns(x -> x.drawn(1, 0), 1, x -> x.drawn(0, 999999), 0);
    }

    // ---- 32 to 37 what there is

    static void p32_as_the_512th_call() {
        last("part(0)", x -> x.part(0), 7);
        last("part(1)", x -> x.part(1), 10);
        last("part(2)", x -> x.part(2), -100000);
        byTurns(x -> x.part(0), 7, x -> x.part(1), 10);
    }

    static void p33_as_the_512th_call() {
        last("image(1)", x -> x.image(1), 1);
        last("image(2)", x -> x.image(2), BAD);
    }

    static void p34_as_the_512th_call() {
        last("from(0)", x -> x.from(0), 1);
        last("from(1)", x -> x.from(1), NO);
        last("from(2)", x -> x.from(2), BAD);
    }

    /** A county of one VILLAGE and one of five by turns, 127 times; neither changes what the other one is. */
    static void p34_two_images_by_turns() {
        Run run = new Run();
        run.call("county(1)", x -> x.county(1), 3).call("image(1)", x -> x.image(1), 1);
        run.call("county(5)", x -> x.county(5), 1).call("lot", x -> x.lot(0, 4, 99), 0).call("image(0)", x -> x.image(0), 1);
        for (int i = 0; i < 126; i++) {
            run.call("from(1)", x -> x.from(1), 1).call("lot", x -> x.lot(5, 0, 9), 0);
            run.call("from(0)", x -> x.from(0), 1).call("moon", x -> x.moon(0, false), 10);
        }
        run.call("count(3)", x -> x.count(3), 1).call("from(1)", x -> x.from(1), 1);
        run.call("count(1)", x -> x.count(1), 0).ends();
    }

    static void p35_as_the_512th_call() {
        for (int i = 0; i < 3; i++) {
            int reason = i;
            last("status(" + reason + ")", x -> x.status(reason), 1);
        }
        last("status(3)", x -> x.status(3), -1);
    }

    static void p35_511_refused_as_bad() {
        Run run = new Run();
        while (run.left() > 1) run.call("status(3)", x -> x.status(3), -1);
        run.call("status(0)", x -> x.status(0), 511).ends();
    }

    static void p35_511_refused_as_no() {
        Run run = new Run();
        while (run.left() > 1) run.call("undo()", DragonTithe::undo, NO);
        run.call("status(1)", x -> x.status(1), 511).ends();
    }

    static void p36_as_the_512th_call() {
        for (int i = 0; i < 7; i++) {
            int what = i;
            last("count(" + what + ")", x -> x.count(what), RICH[what]);
        }
        last("count(7)", x -> x.count(7), BAD);
    }

    static void p36_511_moons() {
        Run run = new Run();
        while (run.left() > 1) run.call("moon(0, true)", x -> x.moon(0, true), 0);
        run.call("count(3)", x -> x.count(3), 511).ends();
    }

    static void p37_as_the_512th_call() {
        last("digest()", DragonTithe::digest, digestOf(RICH));
        byTurns(DragonTithe::digest, digestOf(RICH), x -> x.count(5), 36);
    }
}
