/** Boundary cases of moons, of what is undone and of what is seen: promises 14 to 18. */
public final class EdgesMoonsTest extends Edges {
    public static void main(String[] args) {
        runAll(EdgesMoonsTest.class, 14, 18);
    }

    /** One LOT of each KIND with these HEADS in one VILLAGE; the PAINTED one makes it seen. */
    private static Maker allKinds(int heads) {
        return () -> {
            DragonTithe x = county(1).make();
            for (int kind = 0; kind < 6; kind++) x.lot(kind, 0, heads);
            return x;
        };
    }

    private static Maker one(int kind, int heads) {
        return with(county(1), x -> x.lot(kind, 0, heads));
    }

    private static void heads(DragonTithe x, int... want) {
        for (int i = 0; i < want.length; i++) due("HEADS of LOT " + i, x.of(i, 2), want[i]);
    }

    // ---- 14 moon

    static void p14_clouds_are_bits_of_the_villages() {
        for (int n = 1; n <= 5; n++) {
            ends(fifties(n), (x, clouds) -> x.moon(clouds, false), 0, 5, (1 << n) - 1, 0, BAD);
            ends(fifties(n), (x, clouds) -> x.moon(clouds, true), 0, n == 1 ? 5 : 10, (1 << n) - 1, 0, BAD);
        }
        outside(Edges::rich, (x, clouds) -> x.moon(clouds, true), 0, 7, BAD);
    }

    static void p14_each_bit_hides_its_village() {
        for (int v = 0; v < 5; v++) {
            DragonTithe x = fifties(5).make();
            due("all but " + v, x.moon(31 - (1 << v), true), 5);
            for (int i = 0; i < 5; i++) due("HEADS in " + i, x.of(i, 2), i == v ? 45 : 50);
        }
    }

    static void p14_all_sights_are_0() {
        taken("no LOTS", county(5), x -> x.moon(0, false), 0);
        taken("no LOTS", county(5), x -> x.moon(0, true), 0);
        taken("a LOT without HEADS", living(0), x -> x.moon(0, true), 0);
        heads(taken("a SUNK head is not seen", one(1, 1), x -> x.moon(0, true), 0), 1);
        heads(taken("two are", one(1, 2), x -> x.moon(0, true), 1), 1);
        heads(taken("3 RUNT heads are not seen", one(4, 3), x -> x.moon(0, true), 0), 3);
        heads(taken("all are hidden", fifties(3), x -> x.moon(7, true), 0), 50, 50, 50);
    }

    static void p14_of_like_ones_the_least() {
        heads(taken("moon(0, false)", living(30, 30, 30), x -> x.moon(0, false), 3), 27, 30, 30);
        heads(taken("moon(1, false)", living(30, 30, 30), x -> x.moon(1, false), 3), 30, 27, 30);
        heads(taken("moon(3, false)", living(30, 30, 30), x -> x.moon(3, false), 3), 30, 30, 27);
        heads(taken("one more is greater", living(30, 30, 31), x -> x.moon(0, false), 4), 30, 30, 27);
    }

    static void p14_second_dragon_of_like_ones() {
        heads(taken("all like", living(30, 30, 30), x -> x.moon(0, true), 6), 27, 27, 30);
        heads(taken("0 is hidden", living(30, 30, 30), x -> x.moon(1, true), 6), 30, 27, 27);
        heads(taken("two like behind one", living(30, 30, 50), x -> x.moon(0, true), 8), 27, 30, 45);
        heads(taken("the greater of the others", living(30, 31, 50), x -> x.moon(0, true), 9), 30, 27, 45);
    }

    static void p14_second_dragon_finds_no_other() {
        heads(taken("one VILLAGE", living(50), x -> x.moon(0, true), 5), 45);
        heads(taken("the other is empty", living(50, 0), x -> x.moon(0, true), 5), 45, 0);
        heads(taken("the other is hidden", living(50, 40), x -> x.moon(2, true), 5), 45, 40);
        Maker sunk = with(county(2), x -> x.lot(0, 0, 50), x -> x.lot(1, 1, 1));
        heads(taken("the other has one SUNK head", sunk, x -> x.moon(0, true), 5), 45, 1);
        Maker two = with(county(2), x -> x.lot(0, 0, 50), x -> x.lot(1, 1, 2));
        heads(taken("the other has two", two, x -> x.moon(0, true), 6), 45, 1);
    }

    static void p14_one_dragon_takes_of_one() {
        heads(taken("moon(0, false)", living(50, 49), x -> x.moon(0, false), 5), 45, 49);
    }

    static void p14_second_dragon_comes_ahead_of_growth() {
        Maker grows = with(living(50, 10), x -> x.growth(9));
        heads(taken("moon(0, true)", grows, x -> x.moon(0, true), 6), 54, 18);
    }

    static void p14_sights_as_they_were() {
        // 20 and 19: what the first one takes leaves 18, yet 1 is the next one, and 2 is not asked.
        heads(taken("moon(0, true)", living(20, 19, 18), x -> x.moon(0, true), 4), 18, 17, 18);
    }

    static void p14_no_more_than_heads() {
        heads(taken("none", allKinds(0), x -> x.moon(0, false), 0), 0, 0, 0, 0, 0, 0);
        heads(taken("a DECOY without HEADS", one(5, 0), x -> x.moon(0, false), 0), 0);
        heads(taken("a DECOY with one", one(5, 1), x -> x.moon(0, false), 1), 0);
        heads(taken("one each", allKinds(1), x -> x.moon(0, false), 4), 0, 0, 1, 0, 1, 0);
    }

    static void p14_99_heads_of_each_kind() {
        heads(taken("moon(0, false)", allKinds(99), x -> x.moon(0, false), 36), 89, 89, 99, 89, 94, 98);
    }

    static void p14_a_tenth_is_cut_up() {
        int[][] rows = {{1, 1}, {9, 1}, {10, 1}, {11, 2}, {19, 2}, {20, 2}, {21, 3}, {90, 9}, {91, 10}, {99, 10}};
        for (int[] r : rows) heads(taken("of " + r[0], living(r[0]), x -> x.moon(0, false), r[1]), r[0] - r[1]);
    }

    static void p14_lent_in_even_and_odd_moons() {
        DragonTithe x = one(3, 50).make();
        int[] want = {5, 0, 5, 0};
        for (int i = 0; i < 4; i++) due("MOON " + i, x.moon(0, false), want[i]);
    }

    static void p14_lent_is_taken_of_when_others_are_seen() {
        DragonTithe x = with(living(20), y -> y.lot(3, 0, 50), y -> y.moon(1, false)).make();
        due("MOON 1", x.moon(0, false), 2 + 5);
    }

    static void p14_painted_hides_no_loss_and_has_none() {
        heads(taken("moon(0, false)", one(2, 99), x -> x.moon(0, false), 0), 99);
        Maker decoyed = with(living(50, 0), x -> x.lot(2, 1, 41));
        heads(taken("51 are seen, none is taken", decoyed, x -> x.moon(0, false), 0), 50, 0, 41);
    }

    static void p14_99_at_most_when_they_grow() {
        Maker grows = with(living(99, 90, 91), x -> x.growth(9));
        heads(taken("moon(0, false)", grows, x -> x.moon(0, false), 10), 98, 99, 99);
    }

    static void p14_number_goes_on_whatever_is_taken() {
        DragonTithe x = fresh();
        x.moon(0, false);
        x.moon(7, true);
        due("count(3)", x.count(3), 2);
        x.moon(8, false);
        due("count(3)", x.count(3), 2);
    }

    static void p14_may_be_undone_even_if_none_is_taken() {
        due("count(4)", moons(Edges::fresh, 1).make().count(4), 1);
    }

    static void p14_all_else_stays() {
        DragonTithe x = with(Edges::rich, y -> y.moon(7, false), DragonTithe::undo, DragonTithe::undo).make();
        DragonTithe twin = with(Edges::rich, DragonTithe::undo).make();
        fraction(x, 7, 10);
        if (!drain(x).equals(drain(twin))) due("changed something", 1, 0);
    }

    // ---- 15 undo

    static void p15_none_may_be() {
        refused("undo()", Edges::fresh, DragonTithe::undo, NO, AS_NO);
        refused("undo()", lots(10), DragonTithe::undo, NO, AS_NO);
        refused("undo() again", with(moons(lots(3), 1), DragonTithe::undo), DragonTithe::undo, NO, AS_NO);
    }

    static void p15_ten_moons_at_most() {
        for (int many = 9; many <= 12; many++) {
            DragonTithe x = moons(living(99), many).make();
            int kept = Math.min(many, 10);
            due("count(4) behind " + many, x.count(4), kept);
            for (int i = 1; i <= kept; i++) {
                due("undo()", x.undo(), 1);
                due("MOON", x.count(3), many - i);
                due("that may be undone", x.count(4), kept - i);
            }
            due("one more", x.undo(), NO);
            due("MOON", x.count(3), many - kept);
        }
    }

    static void p15_ten_drives_at_most() {
        for (int many = 10; many <= 11; many++) {
            DragonTithe x = living(99, 0).make();
            for (int i = 0; i < many; i++) x.drive(0, 1, 1);
            for (int i = 1; i <= 10; i++) {
                due("undo()", x.undo(), 1);
                heads(x, 99 - many + i, many - i);
            }
            due("one more", x.undo(), NO);
            heads(x, 99 - many + 10, many - 10);
        }
    }

    static void p15_eleventh_pushes_the_oldest_out_after_an_undo_too() {
        DragonTithe x = with(moons(living(99), 10), DragonTithe::undo).make();
        x.moon(1, false);
        due("count(4)", x.count(4), 10);
        x.moon(1, false);
        due("count(4)", x.count(4), 10);
        for (int i = 0; i < 10; i++) x.undo();
        due("MOON", x.count(3), 1);
        heads(x, 89);
    }

    static void p15_heads_as_ahead_of_each() {
        DragonTithe x = rich();
        int[][] want = {{26, 46, 30, 38, 55, 2}, {23, 43, 30, 39, 55, 3}, {33, 33, 30, 39, 55, 3}, {30, 30, 30, 41, 55, 3}};
        int[] moon = {2, 1, 1, 0};
        for (int i = 0; i < 4; i++) {
            due("undo()", x.undo(), 1);
            heads(x, want[i]);
            due("MOON", x.count(3), moon[i]);
        }
        due("undo()", x.undo(), NO);
    }

    static void p15_a_lot_leaves_none() {
        refused("undo()", with(Edges::rich, x -> x.lot(0, 0, 1)), DragonTithe::undo, NO, AS_NO);
    }

    static void p15_a_dropped_lot_leaves_none() {
        refused("undo()", with(Edges::rich, DragonTithe::drop), DragonTithe::undo, NO, AS_NO);
    }

    static void p15_a_county_leaves_none() {
        refused("undo()", with(Edges::rich, x -> x.county(3)), DragonTithe::undo, NO, AS_NO);
        refused("undo()", with(Edges::rich, DragonTithe::read), DragonTithe::undo, NO, AS_NO);
    }

    static void p15_what_is_refused_leaves_them() {
        Maker full = moons(lots(10), 3);
        due("lot", with(full, x -> x.lot(0, 0, 0)).make().count(4), 3);
        due("drop", with(moons(Edges::fresh, 3), DragonTithe::drop).make().count(4), 3);
        due("county", with(full, x -> x.county(6)).make().count(4), 3);
        due("drive", with(full, x -> x.drive(0, 1, 99)).make().count(4), 3);
        due("moon", with(full, x -> x.moon(8, false)).make().count(4), 3);
        due("read", with(full, DragonTithe::read).make().count(4), 3);
    }

    static void p15_all_other_calls_leave_them() {
        due("count(4)", with(Edges::rich, x -> x.move(0, 1), x -> x.growth(1), x -> x.cloud(0, 1), x -> x.road(0, 2),
            x -> x.guard(0, true), x -> x.told(0, 1), x -> x.type(1), DragonTithe::clear, x -> x.image(1), x -> x.drawn(60, 1),
            x -> x.pays(0, 40), x -> x.fit(3, 0), x -> x.least(0, 2, 0), x -> x.mean(0)).make().count(4), 4);
    }

    static void p15_all_but_heads_and_the_number_stays() {
        DragonTithe x = rich();
        x.growth(9);
        x.cloud(2, 9);
        x.told(0, 9);
        x.move(0, 2);
        x.guard(0, true);
        x.undo();
        due("digest", x.digest(), digestOf(3, 6, 2, 2, 3, 36, 9, 2, 5, 9, 0, 2, 26, 1, 0, 46, 2, 1, 30, 3, 2, 38, 4, 2, 55,
            5, 1, 2, 0, 1, 1, 2, 1, 1, 9, 999, 1, 7, 10));
    }

    static void p15_is_not_undone_itself() {
        DragonTithe x = with(Edges::rich, DragonTithe::undo).make();
        due("count(4)", x.count(4), 3);
    }

    // ---- 16 of

    static void p16_lot_is_0_to_the_last() {
        ends(Edges::rich, (x, lot) -> x.of(lot, 0), 0, 0, 5, 5, BAD);
        for (int w = 0; w < 5; w++) {
            int what = w;
            outside(lots(10), (x, lot) -> x.of(lot, what), 0, 9, BAD);
        }
        due("of(9, 2)", lots(10).make().of(9, 2), 29);
    }

    static void p16_there_is_no_lot() {
        for (int w = 0; w < 5; w++) {
            int what = w;
            refused("of(0, " + what + ")", Edges::fresh, x -> x.of(0, what), BAD, AS_BAD);
            refused("of a dropped one", with(lots(1), DragonTithe::drop), x -> x.of(0, what), BAD, AS_BAD);
        }
    }

    static void p16_what_is_0_to_4() {
        ends(Edges::rich, (x, what) -> x.of(0, what), 0, 0, 4, 3, BAD);
        int[] want = {4, 2, 60, 15, 3};
        for (int w = 0; w < 5; w++) {
            int what = w;
            asks("of(4, " + what + ")", Edges::rich, x -> x.of(4, what), want[what]);
        }
    }

    /** At both ends of HEADS and where a half or a tenth is cut. */
    private static void seenAndTaken(int kind, int[][] rows) {
        for (int[] r : rows) {
            DragonTithe x = one(kind, r[0]).make();
            due("SEEN of KIND " + kind + " with " + r[0], x.of(0, 3), r[1]);
            due("TAKEN of KIND " + kind + " with " + r[0], x.of(0, 4), r[2]);
        }
    }

    static void p16_living() {
        seenAndTaken(0, new int[][] {{0, 0, 0}, {1, 1, 1}, {9, 9, 1}, {10, 10, 1}, {11, 11, 2}, {90, 90, 9}, {91, 91, 10}, {99, 99, 10}});
    }

    static void p16_sunk() {
        seenAndTaken(1, new int[][] {{0, 0, 0}, {1, 0, 1}, {2, 1, 1}, {3, 1, 1}, {10, 5, 1}, {11, 5, 2}, {98, 49, 10}, {99, 49, 10}});
    }

    static void p16_painted() {
        seenAndTaken(2, new int[][] {{0, 10, 0}, {1, 11, 0}, {10, 20, 0}, {99, 109, 0}});
    }

    static void p16_lent() {
        seenAndTaken(3, new int[][] {{0, 0, 0}, {1, 1, 1}, {10, 10, 1}, {11, 11, 2}, {99, 99, 10}});
        DragonTithe x = moons(one(3, 99), 0).make();
        for (int i = 0; i < 4; i++) {
            due("SEEN in MOON " + i, x.of(0, 3), i % 2 == 0 ? 99 : 0);
            due("TAKEN in MOON " + i, x.of(0, 4), 10);
            x.moon(1, false);
        }
    }

    static void p16_runt() {
        seenAndTaken(4, new int[][] {{0, 0, 0}, {1, 0, 0}, {2, 0, 0}, {3, 0, 0}, {4, 1, 0}, {7, 1, 0}, {8, 2, 0}, {10, 2, 0}, {11, 2, 1},
            {20, 5, 1}, {21, 5, 1}, {30, 7, 1}, {31, 7, 2}, {99, 24, 5}});
    }

    static void p16_decoy() {
        seenAndTaken(5, new int[][] {{0, 20, 0}, {1, 22, 1}, {2, 24, 1}, {99, 218, 1}});
    }

    // ---- 17 village

    static void p17_v_is_0_to_n_less_1() {
        for (int n = 1; n <= 5; n++) {
            ends(fifties(n), (x, v) -> x.village(v, 0), 0, 50, n - 1, 50, BAD);
            ends(fifties(n), (x, v) -> x.village(v, 1), 0, 50, n - 1, 50, BAD);
        }
    }

    static void p17_what_is_0_to_1() {
        ends(Edges::rich, (x, what) -> x.village(0, what), 0, 49, 1, 72, BAD);
        ends(Edges::rich, (x, what) -> x.village(2, what), 0, 48, 1, 93, BAD);
    }

    static void p17_counts_once_if_both_are_bad() {
        refused("village(3, 2)", Edges::rich, x -> x.village(3, 2), BAD, AS_BAD);
    }

    static void p17_an_empty_village() {
        asks("SIGHT", Edges::fresh, x -> x.village(2, 0), 0);
        asks("HEADS", Edges::fresh, x -> x.village(2, 1), 0);
    }

    static void p17_all_ten_lots_with_all_heads() {
        Maker most = () -> {
            DragonTithe x = county(5).make();
            for (int i = 0; i < 10; i++) x.lot(5, 4, 99);
            return x;
        };
        asks("SIGHT", most, x -> x.village(4, 0), 2180);
        asks("HEADS", most, x -> x.village(4, 1), 990);
        asks("SIGHT of another", most, x -> x.village(3, 0), 0);
    }

    static void p17_without_clouds() {
        asks("SIGHT", with(Edges::rich, x -> x.cloud(0, 10)), x -> x.village(0, 0), 49);
    }

    // ---- 18 greatest

    static void p18_clouds_are_bits_of_the_villages() {
        for (int n = 1; n <= 5; n++) ends(fifties(n), (x, clouds) -> x.greatest(clouds), 0, 0, (1 << n) - 1, NONE, -10);
        outside(Edges::rich, (x, clouds) -> x.greatest(clouds), 0, 7, -10);
    }

    static void p18_none_if_all_sights_are_0() {
        asks("no LOTS", Edges::fresh, x -> x.greatest(0), NONE);
        asks("all hidden", Edges::rich, x -> x.greatest(7), NONE);
        asks("a SUNK head", one(1, 1), x -> x.greatest(0), NONE);
        asks("two SUNK heads", one(1, 2), x -> x.greatest(0), 0);
        asks("LENT, MOON 0", one(3, 9), x -> x.greatest(0), 0);
        asks("LENT, MOON 1", moons(one(3, 9), 1), x -> x.greatest(0), NONE);
        asks("a DECOY without HEADS", one(5, 0), x -> x.greatest(0), 0);
    }

    static void p18_of_like_ones_the_least() {
        int[] want = {0, 1, 0, 2, 0, 1, 0, NONE};
        for (int c = 0; c < 8; c++) {
            int clouds = c;
            asks("greatest(" + clouds + ")", living(30, 30, 30), x -> x.greatest(clouds), want[clouds]);
        }
    }

    static void p18_one_more_is_greater() {
        asks("the last", living(30, 30, 31), x -> x.greatest(0), 2);
        asks("the midst", living(30, 31, 30), x -> x.greatest(0), 1);
        asks("it is hidden", living(30, 31, 30), x -> x.greatest(2), 0);
        asks("the first of the others", living(29, 30, 30), x -> x.greatest(0), 1);
    }

    static void p18_odds_do_not_hide() {
        asks("greatest(0)", with(Edges::rich, x -> x.cloud(1, 10)), x -> x.greatest(0), 1);
    }
}
