/** Boundary cases of a new object and of the calls that tell a county, but for THE TEXT: promises 1 to 10. */
public final class EdgesCountyTest extends Edges {
    public static void main(String[] args) {
        runAll(EdgesCountyTest.class, 1, 10);
    }

    // ---- 1 a new object

    static void p01_three_villages_and_nothing_else() {
        DragonTithe x = fresh();
        due("VILLAGES", x.count(0), 3);
        for (int what = 1; what < 7; what++) due("count(" + what + ")", x.count(what), 0);
    }

    static void p01_village_2_is_the_last() {
        asks("village(2, 0)", Edges::fresh, x -> x.village(2, 0), 0);
        refused("village(3, 0)", Edges::fresh, x -> x.village(3, 0), BAD, AS_BAD);
    }

    static void p01_no_lot_no_road_no_image_none_to_undo() {
        refused("of(0, 0)", Edges::fresh, x -> x.of(0, 0), BAD, AS_BAD);
        refused("guard(0, true)", Edges::fresh, x -> x.guard(0, true), BAD, AS_BAD);
        refused("from(0)", Edges::fresh, x -> x.from(0), NO, AS_NO);
        refused("from(1)", Edges::fresh, x -> x.from(1), NO, AS_NO);
        refused("undo()", Edges::fresh, DragonTithe::undo, NO, AS_NO);
        refused("drop()", Edges::fresh, DragonTithe::drop, NO, AS_NO);
    }

    static void p01_first_roads_are_not_guarded() {
        Maker roads = with(Edges::fresh, x -> x.road(0, 1), x -> x.road(1, 2), x -> x.road(2, 0));
        for (int k = 0; k < 3; k++) {
            int road = k;
            refused("guard(" + k + ", false)", roads, x -> x.guard(road, false), NO, AS_NO);
        }
    }

    static void p01_odds_told_and_growth_are_0() {
        DragonTithe x = fresh();
        for (int v = 0; v < 3; v++) due("cloud(" + v + ", 1)", x.cloud(v, 1), 0);
        for (int i = 0; i < 3; i++) due("told(" + i + ", 1)", x.told(i, 1), 0);
        due("growth(1)", x.growth(1), 0);
    }

    static void p01_odds_of_villages_3_and_4_are_0_when_they_come() {
        DragonTithe x = county(5).make();
        due("cloud(3, 1)", x.cloud(3, 1), 0);
        due("cloud(4, 1)", x.cloud(4, 1), 0);
    }

    static void p01_fraction_is_0_by_1() {
        fraction(fresh(), 0, 1);
    }

    static void p01_nothing_was_refused() {
        status(fresh(), 0, 0, 0);
    }

    static void p01_text_is_empty() {
        asks("clear()", Edges::fresh, DragonTithe::clear, 0);
        asks("read()", Edges::fresh, DragonTithe::read, -10);
    }

    static void p01_digest() {
        due("digest", fresh().digest(), digestOf(3, 0, 0, 0, 0, 0, 0, 0, 0, 0, 0, 0, 0, 0, 1));
    }

    static void p01_objects_are_apart() {
        DragonTithe x = fresh();
        long before = x.digest();
        rich();
        due("digest", x.digest(), before);
        status(x, 0, 0, 0);
    }

    static void p01_constants() {
        due("NONE", DragonTithe.NONE, -1);
        due("BAD", DragonTithe.BAD, -2);
        due("NO", DragonTithe.NO, -3);
        due("FULL", DragonTithe.FULL, -4);
    }

    // ---- 2 county

    static void p02_n_is_1_to_5() {
        ends(Edges::rich, (x, n) -> x.county(n), 1, 3, 5, 3, BAD);
    }

    static void p02_answers_what_n_was() {
        for (int n = 1; n <= 5; n++) taken("county(2) of " + n, county(n), x -> x.county(2), n);
    }

    static void p02_there_are_n_villages() {
        for (int n = 1; n <= 5; n++) {
            int last = n - 1;
            due("count(0)", county(n).make().count(0), n);
            asks("village " + last + " of " + n, county(n), x -> x.village(last, 1), 0);
            refused("village " + n + " of " + n, county(n), x -> x.village(last + 1, 1), BAD, AS_BAD);
        }
    }

    static void p02_all_is_as_at_first() {
        DragonTithe x = taken("county(5)", Edges::rich, y -> y.county(5), 3);
        due("digest", x.digest(), digestOf(5, 0, 0, 0, 0, 36, 0, 0, 0, 0, 0, 0, 0, 0, 0, 7, 10));
    }

    static void p02_all_is_as_at_first_with_the_same_n() {
        DragonTithe x = taken("county(3)", Edges::rich, y -> y.county(3), 3);
        due("digest", x.digest(), digestOf(3, 0, 0, 0, 0, 36, 0, 0, 0, 0, 0, 0, 0, 7, 10));
    }

    static void p02_odds_are_0_where_a_village_went_and_came() {
        DragonTithe x = county(5).make();
        x.cloud(4, 7);
        x.county(1);
        x.county(5);
        due("cloud(4, 0)", x.cloud(4, 0), 0);
    }

    static void p02_no_lot_is_left() {
        Maker anew = with(Edges::rich, x -> x.county(3));
        refused("of(0, 0)", anew, x -> x.of(0, 0), BAD, AS_BAD);
        refused("drop()", anew, DragonTithe::drop, NO, AS_NO);
        taken("lot(0, 0, 1)", anew, x -> x.lot(0, 0, 1), 0);
    }

    static void p02_no_road_is_left_nor_its_guard() {
        Maker anew = with(Edges::rich, x -> x.county(3));
        refused("guard(0, true)", anew, x -> x.guard(0, true), BAD, AS_BAD);
        taken("road(2, 1)", anew, x -> x.road(2, 1), 0);
        Maker two = with(anew, x -> x.road(0, 1), x -> x.road(2, 1));
        refused("guard(1, false)", two, x -> x.guard(1, false), NO, AS_NO);
    }

    static void p02_none_may_be_undone() {
        refused("undo()", with(Edges::rich, x -> x.county(3)), DragonTithe::undo, NO, AS_NO);
    }

    static void p02_text_fraction_images_and_status_stay() {
        DragonTithe x = rich();
        x.county(1);
        status(x, 1, 1, 1);
        fraction(x, 7, 10);
        due("bytes", x.count(5), 36);
        due("from(0)", x.from(0), 1);
        due("LOTS of the IMAGE", x.count(1), 6);
        due("read()", x.read(), 4);
    }

    // ---- 3 lot

    static void p03_kind_is_0_to_5() {
        ends(Edges::rich, (x, kind) -> x.lot(kind, 0, 1), 0, 6, 5, 6, BAD);
    }

    static void p03_village_is_0_to_n_less_1() {
        for (int n = 1; n <= 5; n++) ends(county(n), (x, v) -> x.lot(0, v, 1), 0, 0, n - 1, 0, BAD);
    }

    static void p03_heads_are_0_to_99() {
        ends(Edges::rich, (x, heads) -> x.lot(0, 0, heads), 0, 6, 99, 6, BAD);
    }

    static void p03_is_as_told() {
        DragonTithe x = county(5).make();
        x.lot(5, 4, 99);
        x.lot(0, 0, 0);
        int[][] want = {{5, 4, 99}, {0, 0, 0}};
        for (int i = 0; i < 2; i++) for (int what = 0; what < 3; what++) due("of", x.of(i, what), want[i][what]);
    }

    static void p03_tenth_lot_is_the_last() {
        for (int i = 0; i < 10; i++) taken("LOT " + i, lots(i), x -> x.lot(0, 0, 1), i);
        refused("an eleventh", lots(10), x -> x.lot(0, 0, 1), FULL, AS_FULL);
        refused("an eleventh", moons(lots(10), 10), x -> x.lot(5, 2, 99), FULL, AS_FULL);
    }

    static void p03_bad_goes_ahead_of_full() {
        refused("KIND 6", lots(10), x -> x.lot(6, 0, 1), BAD, AS_BAD);
        refused("KIND -1", lots(10), x -> x.lot(-1, 0, 1), BAD, AS_BAD);
        refused("VILLAGE 3", lots(10), x -> x.lot(0, 3, 1), BAD, AS_BAD);
        refused("VILLAGE -1", lots(10), x -> x.lot(0, -1, 1), BAD, AS_BAD);
        refused("100 HEADS", lots(10), x -> x.lot(0, 0, 100), BAD, AS_BAD);
        refused("-1 HEADS", lots(10), x -> x.lot(0, 0, -1), BAD, AS_BAD);
    }

    static void p03_counts_once_if_all_is_bad() {
        refused("lot(6, 3, 100)", Edges::rich, x -> x.lot(6, 3, 100), BAD, AS_BAD);
        refused("lot(MIN, MAX, MIN)", Edges::rich, x -> x.lot(MIN, MAX, MIN), BAD, AS_BAD);
    }

    static void p03_there_is_room_when_one_is_dropped() {
        taken("lot", with(lots(10), DragonTithe::drop), x -> x.lot(0, 0, 1), 9);
    }

    static void p03_leaves_none_to_be_undone() {
        DragonTithe x = taken("lot(0, 0, 0)", Edges::rich, y -> y.lot(0, 0, 0), 6);
        due("count(4)", x.count(4), 0);
        due("undo()", x.undo(), NO);
    }

    // ---- 4 move

    static void p04_lot_is_0_to_the_last() {
        ends(Edges::rich, (x, lot) -> x.move(lot, 2), 0, 0, 5, 1, BAD);
        ends(lots(10), (x, lot) -> x.move(lot, 2), 0, 0, 9, 0, BAD);
    }

    static void p04_village_is_0_to_n_less_1() {
        for (int n = 1; n <= 5; n++) ends(fifties(n), (x, v) -> x.move(0, v), 0, 0, n - 1, 0, BAD);
    }

    static void p04_there_is_no_lot() {
        refused("move(0, 0)", Edges::fresh, x -> x.move(0, 0), BAD, AS_BAD);
    }

    static void p04_a_dropped_lot_is_none() {
        refused("move(5, 0)", with(Edges::rich, DragonTithe::drop), x -> x.move(5, 0), BAD, AS_BAD);
    }

    static void p04_counts_once_if_both_are_bad() {
        refused("move(6, 3)", Edges::rich, x -> x.move(6, 3), BAD, AS_BAD);
    }

    static void p04_to_where_it_is_changes_nothing() {
        asks("move(3, 2)", Edges::rich, x -> x.move(3, 2), 2);
    }

    static void p04_its_village_alone_changes() {
        DragonTithe x = taken("move(0, 2)", Edges::rich, y -> y.move(0, 2), 0);
        due("KIND", x.of(0, 0), 0);
        due("VILLAGE", x.of(0, 1), 2);
        due("HEADS", x.of(0, 2), 26);
        due("VILLAGE of the next", x.of(1, 1), 0);
        due("that may be undone", x.count(4), 4);
        due("MOON", x.count(3), 2);
    }

    static void p04_is_not_undone() {
        DragonTithe x = with(Edges::rich, y -> y.move(0, 2)).make();
        for (int i = 0; i < 4; i++) due("undo()", x.undo(), 1);
        due("VILLAGE", x.of(0, 1), 2);
        due("HEADS", x.of(0, 2), 30);
    }

    // ---- 5 drive

    static void p05_from_is_0_to_the_last() {
        ends(Edges::rich, (x, from) -> x.drive(from, 2, 1), 0, 31, 5, 31, BAD);
        ends(lots(10), (x, from) -> x.drive(from, 1, 1), 0, 22, 9, 22, BAD);
    }

    static void p05_to_is_0_to_the_last() {
        ends(Edges::rich, (x, to) -> x.drive(2, to, 1), 0, 27, 5, 3, BAD);
        ends(lots(10), (x, to) -> x.drive(1, to, 1), 0, 21, 9, 30, BAD);
    }

    static void p05_alike_is_bad() {
        for (int i = 0; i < 6; i++) {
            int lot = i;
            refused("drive(i, i, 0) of " + i, Edges::rich, x -> x.drive(lot, lot, 0), BAD, AS_BAD);
            refused("drive(i, i, 1) of " + i, Edges::rich, x -> x.drive(lot, lot, 1), BAD, AS_BAD);
        }
    }

    static void p05_k_is_not_below_0() {
        taken("drive(0, 1, 0)", Edges::rich, x -> x.drive(0, 1, 0), 46);
        int[] below = {-1, -2, -256, MIN, MIN + 1};
        for (int k : below) refused("drive(0, 1, " + k + ")", Edges::rich, x -> x.drive(0, 1, k), BAD, AS_BAD);
    }

    static void p05_k_is_not_more_than_there_are() {
        DragonTithe x = taken("drive(0, 2, 26)", Edges::rich, y -> y.drive(0, 2, 26), 56);
        due("HEADS left", x.of(0, 2), 0);
        int[] over = {27, 28, 99, 100, 256 + 1, 65536, MAX - 1, MAX};
        for (int k : over) refused("drive(0, 2, " + k + ")", Edges::rich, y -> y.drive(0, 2, k), NO, AS_NO);
    }

    static void p05_99_is_the_most_there() {
        DragonTithe x = taken("drive(1, 4, 39)", Edges::rich, y -> y.drive(1, 4, 39), 99);
        due("HEADS left", x.of(1, 2), 7);
        refused("drive(1, 4, 40)", Edges::rich, y -> y.drive(1, 4, 40), NO, AS_NO);
        refused("drive(1, 4, 46)", Edges::rich, y -> y.drive(1, 4, 46), NO, AS_NO);
    }

    static void p05_where_99_are_none_can_come() {
        Maker full = living(99, 99);
        taken("drive(0, 1, 0)", full, x -> x.drive(0, 1, 0), 99);
        refused("drive(0, 1, 1)", full, x -> x.drive(0, 1, 1), NO, AS_NO);
    }

    static void p05_99_into_an_empty_one() {
        DragonTithe x = taken("drive(0, 1, 99)", living(99, 0), y -> y.drive(0, 1, 99), 99);
        due("HEADS left", x.of(0, 2), 0);
    }

    static void p05_where_none_are_none_can_go() {
        Maker empty = living(0, 5);
        taken("drive(0, 1, 0)", empty, x -> x.drive(0, 1, 0), 5);
        refused("drive(0, 1, 1)", empty, x -> x.drive(0, 1, 1), NO, AS_NO);
    }

    static void p05_bad_goes_ahead_of_no() {
        refused("alike", Edges::rich, x -> x.drive(0, 0, MAX), BAD, AS_BAD);
        refused("from", Edges::rich, x -> x.drive(6, 0, MAX), BAD, AS_BAD);
        refused("to", Edges::rich, x -> x.drive(0, 6, MAX), BAD, AS_BAD);
        refused("from below", Edges::rich, x -> x.drive(-1, 0, 99), BAD, AS_BAD);
        refused("to below", Edges::rich, x -> x.drive(0, -1, 99), BAD, AS_BAD);
    }

    static void p05_no_lot_and_one_lot() {
        refused("drive(0, 1, 0)", Edges::fresh, x -> x.drive(0, 1, 0), BAD, AS_BAD);
        refused("drive(0, 0, 0)", lots(1), x -> x.drive(0, 0, 0), BAD, AS_BAD);
        refused("drive(0, 1, 0)", lots(1), x -> x.drive(0, 1, 0), BAD, AS_BAD);
        refused("drive(1, 0, 0)", lots(1), x -> x.drive(1, 0, 0), BAD, AS_BAD);
    }

    static void p05_any_kind_to_any_kind_in_any_village() {
        DragonTithe x = rich();
        due("PAINTED to DECOY", x.drive(2, 5, 30), 32);
        due("DECOY to RUNT", x.drive(5, 4, 32), 92);
        due("RUNT to LIVING", x.drive(4, 0, 73), 99);
    }

    static void p05_none_driven_may_be_undone_too() {
        DragonTithe x = taken("drive(0, 1, 0)", Edges::rich, y -> y.drive(0, 1, 0), 46);
        due("count(4)", x.count(4), 5);
        due("MOON", x.count(3), 2);
    }

    // ---- 6 drop

    static void p06_none_is_no() {
        refused("drop()", Edges::fresh, DragonTithe::drop, NO, AS_NO);
        refused("drop()", with(lots(1), DragonTithe::drop), DragonTithe::drop, NO, AS_NO);
        refused("drop(), a MOON to be undone", moons(Edges::fresh, 3), DragonTithe::drop, NO, AS_NO);
    }

    static void p06_one_to_ten() {
        for (int many = 1; many <= 10; many++) taken("drop() of " + many, lots(many), DragonTithe::drop, many - 1);
    }

    static void p06_it_is_the_last_that_goes() {
        DragonTithe x = taken("drop()", Edges::rich, DragonTithe::drop, 5);
        due("of(4, 0)", x.of(4, 0), 4);
        due("of(5, 0)", x.of(5, 0), BAD);
        due("count(1)", x.count(1), 5);
        due("HEADS where it was", x.village(1, 1), 30);
    }

    static void p06_leaves_none_to_be_undone() {
        DragonTithe x = taken("drop()", Edges::rich, DragonTithe::drop, 5);
        due("count(4)", x.count(4), 0);
        due("undo()", x.undo(), NO);
    }

    // ---- 7 growth

    static void p07_g_is_0_to_9() {
        ends(Edges::rich, (x, g) -> x.growth(g), 0, 3, 9, 3, BAD);
    }

    static void p07_answers_what_it_was() {
        DragonTithe x = fresh();
        for (int g = 1; g <= 9; g++) {
            due("growth(" + g + ")", x.growth(g), g - 1);
            due("count(6)", x.count(6), g);
        }
    }

    static void p07_the_same_again_changes_nothing() {
        asks("growth(3)", Edges::rich, x -> x.growth(3), 3);
    }

    static void p07_99_at_most() {
        int[] kinds = {0, 1, 3, 4};
        int[][] rows = {{89, 98}, {90, 99}, {91, 99}, {98, 99}, {99, 99}};
        for (int kind : kinds) for (int[] row : rows) grows(kind, 9, row[0], row[1]);
    }

    static void p07_no_heads_do_not_grow_one_does() {
        int[] kinds = {0, 1, 3, 4};
        for (int kind : kinds) {
            grows(kind, 9, 0, 0);
            grows(kind, 9, 1, 10);
        }
    }

    static void p07_painted_and_decoys_do_not_grow() {
        int[] heads = {0, 1, 98, 99};
        for (int h : heads) {
            grows(2, 9, h, h);
            grows(5, 9, h, h);
        }
    }

    static void p07_by_0_none_grow() {
        for (int kind = 0; kind < 6; kind++) grows(kind, 0, 50, 50);
    }

    /** Behind a MOON in which all is hidden. */
    private static void grows(int kind, int growth, int heads, int want) {
        DragonTithe x = fresh();
        x.growth(growth);
        x.lot(kind, 0, heads);
        x.moon(7, false);
        due("KIND " + kind + ", " + heads + " HEADS grow to", x.of(0, 2), want);
    }

    static void p07_what_was_taken_to_0_does_not_grow() {
        DragonTithe x = living(1).make();
        x.growth(9);
        due("moon(0, false)", x.moon(0, false), 1);
        due("HEADS", x.of(0, 2), 0);
    }

    // ---- 8 cloud

    static void p08_village_is_0_to_n_less_1() {
        for (int n = 1; n <= 5; n++) ends(county(n), (x, v) -> x.cloud(v, 1), 0, 0, n - 1, 0, BAD);
    }

    static void p08_c_is_0_to_10() {
        ends(Edges::rich, (x, c) -> x.cloud(1, c), 0, 5, 10, 5, BAD);
    }

    static void p08_answers_what_they_were() {
        DragonTithe x = fresh();
        for (int c = 1; c <= 10; c++) due("cloud(2, " + c + ")", x.cloud(2, c), c - 1);
    }

    static void p08_of_this_village_alone() {
        DragonTithe x = with(Edges::rich, y -> y.cloud(1, 10)).make();
        due("cloud(0, 0)", x.cloud(0, 0), 2);
        due("cloud(1, 0)", x.cloud(1, 0), 10);
        due("cloud(2, 0)", x.cloud(2, 0), 0);
    }

    static void p08_the_same_again_changes_nothing() {
        asks("cloud(1, 5)", Edges::rich, x -> x.cloud(1, 5), 5);
    }

    static void p08_counts_once_if_both_are_bad() {
        refused("cloud(3, 11)", Edges::rich, x -> x.cloud(3, 11), BAD, AS_BAD);
    }

    // ---- 9 road

    static void p09_a_is_0_to_n_less_1() {
        for (int n = 2; n <= 5; n++) ends(county(n), (x, a) -> x.road(a, a == 0 ? 1 : 0), 0, 0, n - 1, 0, BAD);
    }

    static void p09_b_is_0_to_n_less_1() {
        for (int n = 2; n <= 5; n++) ends(county(n), (x, b) -> x.road(b == 0 ? 1 : 0, b), 0, 0, n - 1, 0, BAD);
    }

    static void p09_alike_is_bad() {
        int[] all = {0, 1, 2, 3, -1, MAX, MIN};
        for (int v : all) refused("road(v, v) of " + v, Edges::rich, x -> x.road(v, v), BAD, AS_BAD);
    }

    static void p09_one_village_has_none() {
        refused("road(0, 0)", county(1), x -> x.road(0, 0), BAD, AS_BAD);
        refused("road(0, 1)", county(1), x -> x.road(0, 1), BAD, AS_BAD);
        refused("road(1, 0)", county(1), x -> x.road(1, 0), BAD, AS_BAD);
    }

    static void p09_where_there_is_one_is_no_either_way() {
        int[][] pairs = {{0, 1}, {1, 0}, {2, 1}, {1, 2}};
        for (int[] p : pairs) refused("road(" + p[0] + ", " + p[1] + ")", Edges::rich, x -> x.road(p[0], p[1]), NO, AS_NO);
        taken("road(2, 0)", Edges::rich, x -> x.road(2, 0), 2);
        taken("road(0, 2)", Edges::rich, x -> x.road(0, 2), 2);
    }

    static void p09_five_villages_have_ten() {
        DragonTithe x = county(5).make();
        int number = 0;
        for (int a = 4; a >= 0; a--) for (int b = 0; b < a; b++) due("road(" + a + ", " + b + ")", x.road(a, b), number++);
        due("count(2)", x.count(2), 10);
        for (int i = 0; i < 25; i++) {
            int a = i / 5, b = i % 5;
            if (a == b) refused("road", allRoads(5), y -> y.road(a, b), BAD, AS_BAD);
            else refused("road", allRoads(5), y -> y.road(a, b), NO, AS_NO);
        }
    }

    static void p09_is_not_guarded_when_it_comes() {
        refused("guard(2, false)", with(Edges::rich, x -> x.road(2, 0)), x -> x.guard(2, false), NO, AS_NO);
    }

    static void p09_keeps_a_and_b_as_told() {
        DragonTithe x = county(2).make();
        x.road(1, 0);
        due("digest", x.digest(), digestOf(2, 0, 1, 0, 0, 0, 0, 0, 0, 1, 0, 0, 0, 0, 0, 0, 1));
    }

    static void p09_leaves_what_may_be_undone() {
        due("count(4)", with(Edges::rich, x -> x.road(2, 0)).make().count(4), 4);
    }

    // ---- 10 guard

    static void p10_road_is_0_to_the_last() {
        ends(allRoads(5), (x, k) -> x.guard(k, true), 0, 1, 9, 1, BAD);
        outside(allRoads(5), (x, k) -> x.guard(k, false), 0, 9, BAD);
        ends(with(county(2), x -> x.road(0, 1)), (x, k) -> x.guard(k, true), 0, 1, 0, 1, BAD);
    }

    static void p10_there_is_no_road() {
        refused("guard(0, true)", county(5), x -> x.guard(0, true), BAD, AS_BAD);
        refused("guard(0, false)", county(5), x -> x.guard(0, false), BAD, AS_BAD);
    }

    static void p10_a_number_32_more_is_bad() {
        refused("guard(32, true)", Edges::rich, x -> x.guard(32, true), BAD, AS_BAD);
        refused("guard(33, false)", Edges::rich, x -> x.guard(33, false), BAD, AS_BAD);
    }

    static void p10_what_is_so_is_no() {
        refused("guard(0, false)", Edges::rich, x -> x.guard(0, false), NO, AS_NO);
        refused("guard(1, true)", Edges::rich, x -> x.guard(1, true), NO, AS_NO);
    }

    static void p10_what_is_not_so_is_taken() {
        DragonTithe x = taken("guard(0, true)", Edges::rich, y -> y.guard(0, true), 1);
        due("again", x.guard(0, true), NO);
        due("the other is as it was", x.guard(1, true), NO);
        x = taken("guard(1, false)", Edges::rich, y -> y.guard(1, false), 1);
        due("again", x.guard(1, false), NO);
        due("the other is as it was", x.guard(0, false), NO);
    }

    static void p10_all_ten_at_once() {
        DragonTithe x = allRoads(5).make();
        for (int k = 0; k < 10; k++) due("guard(" + k + ", true)", x.guard(k, true), 1);
        for (int k = 0; k < 10; k++) due("guard(" + k + ", true)", x.guard(k, true), NO);
        for (int k = 9; k >= 0; k--) due("guard(" + k + ", false)", x.guard(k, false), 1);
        due("digest", x.digest(), allRoads(5).make().digest());
    }

    static void p10_on_and_off_is_as_before() {
        DragonTithe x = rich();
        long before = x.digest();
        x.guard(0, true);
        x.guard(0, false);
        due("digest", x.digest(), before);
    }
}
