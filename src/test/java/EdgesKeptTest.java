/** Boundary cases of what there is: promises 32 to 37. */
public final class EdgesKeptTest extends Edges {
    private static final long[] RICH = {3, 6, 2, 2, 4, 36, 3, 2, 5, 0, 0, 0, 26, 1, 0, 46, 2, 1, 30, 3, 2, 33, 4, 2, 60, 5, 1, 2,
        0, 1, 0, 2, 1, 1, 8, 999, 1, 7, 10};

    public static void main(String[] args) {
        runAll(EdgesKeptTest.class, 32, 37);
    }

    /** As much as there can be of all: 5 VILLAGES, 10 LOTS, 10 ROADS, 10 to be undone, 150 bytes. */
    private static DragonTithe most() {
        DragonTithe x = county(5).make();
        for (int i = 0; i < 10; i++) x.lot(5 - i / 2, i % 5, 99 - i);
        for (int a = 4; a > 0; a--) for (int b = 0; b < a; b++) x.road(a, b);
        for (int k = 0; k < 10; k++) x.guard(k, true);
        for (int v = 0; v < 5; v++) x.cloud(v, 10 - v);
        for (int i = 0; i < 3; i++) x.told(i, 999 - i);
        x.growth(9);
        for (int i = 0; i < 11; i++) x.moon(31, true);
        type(x, blanks(142) + "county3;");
        return x;
    }

    // ---- 32 part

    static void p32_what_is_0_to_1() {
        ends(Edges::rich, (x, what) -> x.part(what), 0, 7, 1, 10, -100000);
        ends(Edges::fresh, (x, what) -> x.part(what), 0, 0, 1, 1, -100000);
    }

    static void p32_above_may_be_below_0_below_may_not() {
        DragonTithe x = with(Edges::rich, y -> y.share(1)).make();
        fraction(x, -25, 6);
    }

    static void p32_each_of_its_calls_sets_it_anew() {
        DragonTithe x = rich();
        x.chance(1);
        fraction(x, 1, 2);
        x.mean(0);
        fraction(x, 16, 5);
        x.share(2);
        fraction(x, 7, 3);
        x.chance(0);
        fraction(x, 2, 5);
    }

    static void p32_no_other_call_sets_it() {
        DragonTithe x = rich();
        x.painting(1, 99);
        x.league(7);
        x.pays(0, 40);
        x.fit(3, 0);
        x.drawn(60, 1);
        x.least(0, 2, 0);
        x.moon(0, true);
        x.undo();
        x.from(0);
        x.read();
        x.county(1);
        fraction(x, 7, 10);
    }

    static void p32_a_refused_call_leaves_it() {
        DragonTithe x = rich();
        x.chance(3);
        x.chance(-1);
        x.mean(3);
        x.mean(-2);
        x.share(3);
        x.share(-1);
        fraction(x, 7, 10);
    }

    // ---- 33 image

    static void p33_i_is_0_to_1() {
        ends(Edges::rich, (x, i) -> x.image(i), 0, 1, 1, 1, BAD);
        ends(Edges::fresh, (x, i) -> x.image(i), 0, 1, 1, 1, BAD);
    }

    static void p33_a_refused_one_keeps_none() {
        refused("from(0)", with(Edges::fresh, x -> x.image(2), x -> x.image(-1)), x -> x.from(0), NO, AS_NO);
        refused("from(1)", with(Edges::fresh, x -> x.image(2), x -> x.image(-1)), x -> x.from(1), NO, AS_NO);
    }

    static void p33_one_kept_is_not_the_other() {
        refused("from(1)", with(Edges::fresh, x -> x.image(0)), x -> x.from(1), NO, AS_NO);
        refused("from(0)", with(Edges::fresh, x -> x.image(1)), x -> x.from(0), NO, AS_NO);
    }

    static void p33_changes_nothing_else() {
        DragonTithe x = rich();
        long before = x.digest();
        due("image(1)", x.image(1), 1);
        due("digest", x.digest(), before);
        status(x, 1, 1, 1);
        due("count(4)", x.count(4), 4);
        x.from(0);
        due("the other IMAGE", x.count(3), 1);
    }

    static void p33_a_later_one_takes_its_place() {
        DragonTithe x = rich();
        x.image(0);
        x.county(1);
        x.from(0);
        due("MOON", x.count(3), 2);
        due("HEADS", x.of(4, 2), 60);
    }

    static void p33_an_empty_county_may_be_kept() {
        DragonTithe x = with(Edges::fresh, y -> y.image(0), y -> y.lot(0, 0, 1)).make();
        due("from(0)", x.from(0), 1);
        due("count(1)", x.count(1), 0);
    }

    static void p33_is_not_changed_by_what_comes() {
        DragonTithe x = most();
        long before = bareDigest(x);
        x.image(1);
        x.undo();
        x.drop();
        x.guard(0, false);
        x.cloud(0, 0);
        x.told(0, 0);
        x.move(0, 4);
        x.drive(0, 1, 1);
        x.moon(0, true);
        x.growth(0);
        x.county(2);
        due("from(1)", x.from(1), 1);
        due("digest", bareDigest(x), before);
    }

    // ---- 34 from

    static void p34_i_is_0_to_1() {
        Maker both = with(Edges::rich, x -> x.image(1));
        ends(both, (x, i) -> x.from(i), 0, 1, 1, 1, BAD);
    }

    static void p34_none_was_kept() {
        refused("from(0)", Edges::fresh, x -> x.from(0), NO, AS_NO);
        refused("from(1)", Edges::fresh, x -> x.from(1), NO, AS_NO);
        refused("from(1)", Edges::rich, x -> x.from(1), NO, AS_NO);
    }

    static void p34_bad_goes_ahead_of_no() {
        outside(Edges::fresh, (x, i) -> x.from(i), 0, 1, BAD);
    }

    static void p34_all_but_text_fraction_images_and_status() {
        DragonTithe x = with(Edges::rich, y -> y.from(0)).make();
        due("digest", x.digest(), digestOf(3, 6, 2, 1, 1, 36, 3, 2, 5, 0, 0, 0, 33, 1, 0, 33, 2, 1, 30, 3, 2, 39, 4, 2, 55, 5, 1, 3,
            0, 1, 0, 2, 1, 1, 8, 999, 1, 7, 10));
        status(x, 1, 1, 1);
        due("from(1)", x.from(1), NO);
        due("read()", x.read(), 4);
    }

    static void p34_what_may_be_undone_is_kept() {
        DragonTithe x = with(Edges::rich, y -> y.from(0)).make();
        due("count(4)", x.count(4), 1);
        due("undo()", x.undo(), 1);
        due("HEADS", x.of(3, 2), 41);
        due("MOON", x.count(3), 0);
        due("undo()", x.undo(), NO);
    }

    static void p34_all_ten_that_may_be_undone_are_kept() {
        DragonTithe x = most();
        x.image(0);
        x.county(1);
        x.from(0);
        for (int i = 10; i >= 1; i--) {
            due("undo()", x.undo(), 1);
            due("MOON", x.count(3), i);
        }
        due("undo()", x.undo(), NO);
    }

    static void p34_what_may_be_undone_is_kept_whatever_came_since() {
        DragonTithe x = rich();
        x.image(1);
        x.county(1);
        x.lot(0, 0, 99);
        x.lot(0, 0, 1);
        for (int i = 0; i < 10; i++) x.drive(i % 2, 1 - i % 2, 1);
        x.from(1);
        int[][] want = {{26, 46, 30, 38, 55, 2}, {23, 43, 30, 39, 55, 3}, {33, 33, 30, 39, 55, 3}, {30, 30, 30, 41, 55, 3}};
        int[] moon = {2, 1, 1, 0};
        for (int i = 0; i < 4; i++) {
            due("undo()", x.undo(), 1);
            due("MOON", x.count(3), moon[i]);
            for (int lot = 0; lot < 6; lot++) due("HEADS of LOT " + lot, x.of(lot, 2), want[i][lot]);
        }
        due("undo()", x.undo(), NO);
    }

    static void p34_lots_that_came_and_went_since_leave_them() {
        DragonTithe x = rich();
        x.lot(0, 0, 1);
        x.drop();
        due("count(4)", x.count(4), 0);
        x.from(0);
        due("count(4)", x.count(4), 1);
    }

    static void p34_again_and_again() {
        DragonTithe x = rich();
        x.from(0);
        long first = x.digest();
        x.moon(0, true);
        x.lot(0, 0, 99);
        x.from(0);
        due("digest", x.digest(), first);
        x.from(0);
        due("digest", x.digest(), first);
    }

    static void p34_into_a_county_of_other_size() {
        DragonTithe x = rich();
        x.county(5);
        for (int i = 0; i < 10; i++) x.lot(0, 4, 99);
        x.cloud(4, 9);
        x.from(0);
        due("village(3, 0)", x.village(3, 0), BAD);
        due("of(6, 0)", x.of(6, 0), BAD);
        x.county(5);
        due("cloud(4, 0)", x.cloud(4, 0), 0);
    }

    // ---- 35 status

    static void p35_what_is_0_to_2() {
        ends(Edges::rich, (x, what) -> x.status(what), 0, 1, 2, 1, -1);
        ends(Edges::fresh, (x, what) -> x.status(what), 0, 0, 2, 0, -1);
    }

    static void p35_another_what_counts_as_bad() {
        DragonTithe x = fresh();
        due("status(3)", x.status(3), -1);
        due("status(0)", x.status(0), 1);
        due("status(-1)", x.status(-1), -1);
        due("status(0)", x.status(0), 2);
        due("status(1)", x.status(1), 0);
        due("status(2)", x.status(2), 0);
    }

    static void p35_each_reason_by_itself() {
        DragonTithe x = lots(10).make();
        x.lot(0, 0, 0);
        status(x, 0, 0, 1);
        x.undo();
        status(x, 0, 1, 1);
        x.lot(6, 0, 0);
        status(x, 1, 1, 1);
    }

    static void p35_other_answers_of_refused_calls_count_as_bad() {
        DragonTithe x = fresh();
        x.greatest(8);
        x.least(8, 0, 0);
        x.game(0, 0, 0);
        x.fit(0, 0);
        x.part(2);
        x.status(3);
        status(x, 6, 0, 0);
    }

    static void p35_none_is_no_refusal() {
        DragonTithe x = fresh();
        due("greatest(0)", x.greatest(0), NONE);
        due("least(0, 2, 1)", x.least(0, 2, 1), NONE);
        due("painting(0, 0)", x.painting(0, 0), NONE);
        due("unseen(0, 1)", x.unseen(0, 1), NONE);
        due("game(0, 1, 1)", x.game(0, 1, 1), NONE);
        x.told(0, 1);
        due("fit(1, 1)", x.fit(1, 1), NONE);
        x.lot(5, 0, 9);
        due("pays(0, 1)", x.pays(0, 1), NONE);
        status(x, 0, 0, 0);
    }

    static void p35_items_and_faults_are_none() {
        DragonTithe x = fresh();
        x.read();
        type(x, "county 3;lot 9 9 9;");
        due("read()", x.read(), -1001);
        type(x, "road 0 1;road 0 1;");
        x.read();
        type(x, "x");
        due("read()", x.read(), -47);
        status(x, 0, 0, 0);
    }

    static void p35_stays_with_county_images_and_undo() {
        DragonTithe x = rich();
        x.image(1);
        x.lot(6, 0, 0);
        x.from(1);
        x.undo();
        x.county(5);
        x.read();
        status(x, 2, 1, 1);
    }

    // ---- 36 count

    static void p36_what_is_0_to_6() {
        ends(Edges::rich, (x, what) -> x.count(what), 0, 3, 6, 3, BAD);
    }

    static void p36_each_of_them() {
        for (int i = 0; i < 7; i++) {
            int what = i;
            asks("count(" + what + ")", Edges::rich, x -> x.count(what), RICH[what]);
        }
    }

    static void p36_the_most_of_each() {
        DragonTithe x = most();
        int[] want = {5, 10, 10, 11, 10, 150, 9};
        for (int what = 0; what < 7; what++) due("count(" + what + ")", x.count(what), want[what]);
    }

    static void p36_the_least_of_each() {
        DragonTithe x = county(1).make();
        int[] want = {1, 0, 0, 0, 0, 0, 0};
        for (int what = 0; what < 7; what++) due("count(" + what + ")", x.count(what), want[what]);
    }

    static void p36_moons_go_on_beyond_those_that_may_be_undone() {
        DragonTithe x = moons(Edges::fresh, 300).make();
        due("count(3)", x.count(3), 300);
        due("count(4)", x.count(4), 10);
    }

    // ---- 37 digest

    static void p37_of_a_rich_county() {
        asks("digest()", Edges::rich, DragonTithe::digest, digestOf(RICH));
    }

    static void p37_runs_over_64_bits() {
        long[] row = new long[7 + 5 + 30 + 30 + 3 + 2];
        int[] counts = {5, 10, 10, 11, 10, 150, 9};
        int at = 0;
        for (int c : counts) row[at++] = c;
        for (int v = 0; v < 5; v++) row[at++] = 10 - v;
        for (int i = 0; i < 10; i++) {
            int kind = 5 - i / 2;
            row[at++] = kind;
            row[at++] = i % 5;
            row[at++] = kind == 2 || kind == 5 ? 99 - i : 99;
        }
        for (int a = 4; a > 0; a--) {
            for (int b = 0; b < a; b++) {
                row[at++] = a;
                row[at++] = b;
                row[at++] = 1;
            }
        }
        for (int i = 0; i < 3; i++) row[at++] = 999 - i;
        row[at++] = 0;
        row[at] = 1;
        due("digest()", most().digest(), digestOf(row));
    }

    static void p37_with_a_fraction_below_0() {
        long[] row = RICH.clone();
        row[row.length - 2] = -25;
        row[row.length - 1] = 6;
        due("digest()", with(Edges::rich, x -> x.share(1)).make().digest(), digestOf(row));
    }

    static void p37_least_county() {
        due("digest()", county(1).make().digest(), digestOf(1, 0, 0, 0, 0, 0, 0, 0, 0, 0, 0, 0, 1));
    }

    static void p37_status_images_and_bytes_are_not_in_it() {
        DragonTithe x = rich();
        x.lot(6, 0, 0);
        x.image(1);
        x.clear();
        type(x, "#".repeat(36));
        due("digest()", x.digest(), digestOf(RICH));
    }

    static void p37_each_part_is_in_it() {
        Call[] changes = {x -> x.county(3), x -> x.lot(0, 0, 0), x -> x.move(0, 1), x -> x.drive(0, 1, 1), x -> x.drive(0, 1, 0),
            DragonTithe::drop, x -> x.growth(4), x -> x.cloud(0, 3), x -> x.cloud(2, 1), x -> x.road(0, 2), x -> x.guard(0, true),
            x -> x.guard(1, false), x -> x.type(0), DragonTithe::clear, DragonTithe::read, x -> x.moon(7, false), DragonTithe::undo,
            x -> x.chance(0), x -> x.told(0, 9), x -> x.told(1, 998), x -> x.told(2, 0), x -> x.from(0)};
        for (int i = 0; i < changes.length; i++) {
            boolean same = with(Edges::rich, changes[i]).make().digest() == digestOf(RICH);
            due("digest behind change " + i + " is the same", same ? 1 : 0, 0);
        }
    }
}
