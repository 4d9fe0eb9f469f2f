import java.math.BigInteger;

/** Boundary cases of what to do: promises 19 to 31. */
public final class EdgesAdviceTest extends Edges {
    public static void main(String[] args) {
        runAll(EdgesAdviceTest.class, 19, 31);
    }

    /** LIVING LOTS of 50 HEADS in VILLAGE 0 of n, behind others there that have none. */
    private static Maker last(int n, int empty, int many) {
        return () -> {
            DragonTithe x = county(n).make();
            for (int i = 0; i < empty; i++) x.lot(0, 0, 0);
            for (int i = 0; i < many; i++) x.lot(0, 0, 50);
            return x;
        };
    }

    // ---- 19 least

    private static void least(Maker maker, int clouds, int m, int much, int first, int second) {
        String what = "least(" + clouds + ", " + m + ", ";
        asks(what + "0)", maker, x -> x.least(clouds, m, 0), much);
        asks(what + "1)", maker, x -> x.least(clouds, m, 1), first);
        asks(what + "2)", maker, x -> x.least(clouds, m, 2), second);
    }

    static void p19_clouds_are_bits_of_the_villages() {
        for (int n = 1; n <= 5; n++) ends(fifties(n), (x, clouds) -> x.least(clouds, 0, 0), 0, 5, (1 << n) - 1, 0, -10);
        outside(Edges::rich, (x, clouds) -> x.least(clouds, 2, 1), 0, 7, -10);
    }

    static void p19_m_is_0_to_2() {
        ends(Edges::rich, (x, m) -> x.least(0, m, 0), 0, 1, 2, 1, -10);
        outside(Edges::rich, (x, m) -> x.least(7, m, 2), 0, 2, -10);
    }

    static void p19_what_is_0_to_2() {
        ends(Edges::rich, (x, what) -> x.least(0, 2, what), 0, 1, 2, NONE, -10);
        outside(Edges::rich, (x, what) -> x.least(0, 0, what), 0, 2, -10);
    }

    static void p19_counts_once_if_all_is_bad() {
        refused("least(8, 3, 3)", Edges::rich, x -> x.least(8, 3, 3), -10, AS_BAD);
    }

    static void p19_no_lots() {
        for (int m = 0; m <= 2; m++) least(county(5), 0, m, 0, NONE, NONE);
    }

    static void p19_one_village_has_no_other() {
        for (int m = 0; m <= 2; m++) least(living(50), 0, m, 5, NONE, NONE);
        least(living(50), 1, 2, 0, NONE, NONE);
    }

    static void p19_no_moves_one_two() {
        least(last(2, 0, 3), 2, 0, 15, NONE, NONE);
        least(last(2, 0, 3), 2, 1, 10, 1, NONE);
        least(last(2, 0, 3), 2, 2, 5, 1, 11);
    }

    static void p19_of_like_ones_fewer_moves() {
        least(last(2, 0, 1), 2, 2, 0, 1, NONE);
        least(last(2, 0, 2), 0, 2, 5, 1, NONE);
        least(living(50, 50), 0, 2, 5, NONE, NONE);
        least(living(50, 50), 3, 2, 0, NONE, NONE);
    }

    static void p19_of_like_ones_the_lesser_lot() {
        least(last(2, 0, 2), 2, 1, 5, 1, NONE);
        least(last(2, 1, 2), 2, 1, 5, 11, NONE);
        least(last(2, 1, 3), 2, 2, 5, 11, 21);
    }

    static void p19_of_like_ones_the_lesser_village() {
        least(last(3, 0, 1), 6, 1, 0, 1, NONE);
        least(last(3, 0, 1), 4, 1, 0, 2, NONE);
        least(last(5, 0, 1), 24, 1, 0, 3, NONE);
        least(last(3, 0, 2), 6, 2, 0, 1, 11);
        least(last(3, 0, 2), 4, 2, 0, 2, 12);
        Maker behind = with(county(3), x -> x.lot(0, 2, 50));
        least(behind, 3, 1, 0, 0, NONE);
        least(behind, 2, 1, 0, 1, NONE);
    }

    static void p19_the_last_lot_to_the_last_village() {
        least(last(5, 9, 1), 16, 1, 0, 94, NONE);
        least(last(5, 9, 1), 16, 2, 0, 94, NONE);
        least(last(5, 8, 2), 16, 2, 0, 84, 94);
    }

    static void p19_the_first_lot_to_the_first_village() {
        least(with(county(2), x -> x.lot(0, 1, 50)), 1, 1, 0, 0, NONE);
    }

    static void p19_no_lot_twice() {
        // Only by two moves of LOT 0 could it come to where it is.
        least(with(county(3), x -> x.lot(0, 0, 50)), 0, 2, 5, NONE, NONE);
    }

    static void p19_lent_by_the_moons_number() {
        Maker lent = with(county(2), x -> x.lot(3, 0, 50), x -> x.lot(0, 0, 9));
        least(lent, 0, 0, 6, NONE, NONE);
        least(moons(with(lent, x -> x.move(0, 1)), 1), 1, 1, 0, NONE, NONE);
        least(with(lent, x -> x.moon(3, false)), 0, 1, 1, 1, NONE);
    }

    static void p19_two_moves_to_the_first_village() {
        least(with(county(2), x -> x.lot(0, 1, 50), x -> x.lot(0, 1, 50)), 1, 2, 0, 0, 10);
    }

    static void p19_one_dragon() {
        least(living(50, 40), 0, 0, 5, NONE, NONE);
    }

    static void p19_asked_again_behind_another_one() {
        DragonTithe x = last(5, 8, 2).make();
        due("least(16, 2, 2)", x.least(16, 2, 2), 94);
        due("least(16, 0, 2)", x.least(16, 0, 2), NONE);
        due("least(16, 0, 1)", x.least(16, 0, 1), NONE);
        due("least(16, 2, 1)", x.least(16, 2, 1), 84);
        due("least(16, 1, 2)", x.least(16, 1, 2), NONE);
        due("least(31, 2, 0)", x.least(31, 2, 0), 0);
        x.county(1);
        due("least(0, 2, 1)", x.least(0, 2, 1), NONE);
        due("least(0, 2, 0)", x.least(0, 2, 0), 0);
    }

    // ---- 20 chance

    static void p20_village_is_0_to_n_less_1() {
        for (int n = 1; n <= 5; n++) ends(fifties(n), (x, v) -> x.chance(v), 0, 1, n - 1, 1, BAD);
        outside(Edges::rich, (x, v) -> x.chance(v), 0, 2, BAD);
    }

    static void p20_none_is_bad() {
        refused("chance(NONE)", Edges::rich, x -> x.chance(NONE), BAD, AS_BAD);
    }

    static void p20_0_of_10_and_10_of_10() {
        makes("never hidden", living(50, 40), x -> x.chance(0), 1, 1);
        makes("never hidden", living(50, 40), x -> x.chance(1), 0, 1);
        Maker hidden = with(living(50, 40), x -> x.cloud(0, 10));
        makes("always hidden", hidden, x -> x.chance(0), 0, 1);
        makes("always hidden", hidden, x -> x.chance(1), 1, 1);
        makes("both always hidden", with(hidden, x -> x.cloud(1, 10)), x -> x.chance(1), 0, 1);
    }

    static void p20_each_c_in_lowest_terms() {
        long[][] want = {{1, 1}, {9, 10}, {4, 5}, {7, 10}, {3, 5}, {1, 2}, {2, 5}, {3, 10}, {1, 5}, {1, 10}, {0, 1}};
        for (int i = 0; i <= 10; i++) {
            int c = i;
            makes("c is " + c, with(living(50), x -> x.cloud(0, c)), x -> x.chance(0), want[c][0], want[c][1]);
        }
    }

    static void p20_five_villages_of_9_each() {
        Maker nine = with(living(50, 40, 30, 20, 10), x -> x.cloud(0, 9), x -> x.cloud(1, 9), x -> x.cloud(2, 9),
            x -> x.cloud(3, 9), x -> x.cloud(4, 9));
        long[][] want = {{1, 10}, {9, 100}, {81, 1000}, {729, 10000}, {6561, 100000}};
        for (int i = 0; i < 5; i++) {
            int v = i;
            makes("chance(" + v + ")", nine, x -> x.chance(v), want[v][0], want[v][1]);
        }
    }

    static void p20_of_like_ones_the_least() {
        Maker like = with(living(30, 30), x -> x.cloud(0, 4));
        makes("chance(0)", like, x -> x.chance(0), 3, 5);
        makes("chance(1)", like, x -> x.chance(1), 2, 5);
    }

    static void p20_all_sights_are_0() {
        makes("no LOTS", Edges::fresh, x -> x.chance(0), 0, 1);
        makes("a SUNK head", with(county(1), x -> x.lot(1, 0, 1)), x -> x.chance(0), 0, 1);
        makes("no LOTS behind 7 by 10", with(Edges::rich, x -> x.county(3)), x -> x.chance(2), 0, 1);
    }

    static void p20_asked_again_in_a_lesser_county() {
        DragonTithe x = fifties(5).make();
        x.move(0, 4);
        x.chance(4);
        fraction(x, 1, 1);
        x.county(2);
        x.lot(0, 1, 9);
        x.chance(0);
        fraction(x, 0, 1);
        x.chance(1);
        fraction(x, 1, 1);
    }

    // ---- 21 mean

    static void p21_village_is_none_to_n_less_1() {
        for (int n = 1; n <= 5; n++) ends(fifties(n), (x, v) -> x.mean(v), NONE, 1, n - 1, 1, BAD);
        outside(Edges::rich, (x, v) -> x.mean(v), NONE, 2, BAD);
    }

    static void p21_none_is_of_all() {
        Maker nine = with(living(50, 40, 30, 20, 10), x -> x.cloud(0, 9), x -> x.cloud(1, 9), x -> x.cloud(2, 9),
            x -> x.cloud(3, 9), x -> x.cloud(4, 9));
        makes("mean(NONE)", nine, x -> x.mean(NONE), 131441, 100000);
        makes("mean(0)", nine, x -> x.mean(0), 1, 2);
        makes("mean(4)", nine, x -> x.mean(4), 6561, 100000);
    }

    static void p21_nothing_is_taken() {
        makes("no LOTS", Edges::fresh, x -> x.mean(NONE), 0, 1);
        makes("always hidden", with(living(50), x -> x.cloud(0, 10)), x -> x.mean(NONE), 0, 1);
        makes("PAINTED", with(county(1), x -> x.lot(2, 0, 99)), x -> x.mean(0), 0, 1);
        makes("a DECOY without HEADS", with(county(1), x -> x.lot(5, 0, 0)), x -> x.mean(0), 0, 1);
    }

    static void p21_the_most_that_can_be() {
        Maker most = () -> {
            DragonTithe x = county(5).make();
            for (int i = 0; i < 10; i++) x.lot(0, 4, 99);
            return x;
        };
        makes("mean(4)", most, x -> x.mean(4), 100, 1);
        makes("mean(NONE)", with(most, x -> x.cloud(4, 9)), x -> x.mean(NONE), 10, 1);
        makes("mean(3)", most, x -> x.mean(3), 0, 1);
    }

    static void p21_one_dragon() {
        makes("mean(NONE)", living(50, 40), x -> x.mean(NONE), 5, 1);
        makes("mean(1)", living(50, 40), x -> x.mean(1), 0, 1);
    }

    static void p21_asked_again_in_a_lesser_county() {
        DragonTithe x = fifties(5).make();
        x.mean(NONE);
        x.county(1);
        x.mean(NONE);
        fraction(x, 0, 1);
        x.lot(0, 0, 20);
        x.mean(NONE);
        fraction(x, 2, 1);
    }

    // ---- 22 painting

    static void p22_village_is_0_to_n_less_1() {
        for (int n = 1; n <= 5; n++) {
            ends(fifties(n), (x, v) -> x.painting(v, 0), 0, n == 1 ? NONE : 1, n - 1, NONE, BAD);
        }
        outside(Edges::rich, (x, v) -> x.painting(v, 99), 0, 2, BAD);
    }

    static void p22_heads_are_0_to_99() {
        ends(living(50, 49), (x, h) -> x.painting(0, h), 0, 1, 99, 1, BAD);
        outside(Edges::rich, (x, h) -> x.painting(2, h), 0, 99, BAD);
    }

    static void p22_counts_once_if_both_are_bad() {
        refused("painting(3, 100)", Edges::rich, x -> x.painting(3, 100), BAD, AS_BAD);
    }

    static void p22_like_is_enough_for_a_lesser_village_alone() {
        asks("49 by 50", living(0, 50), x -> x.painting(1, 39), NONE);
        asks("50 by 50", living(0, 50), x -> x.painting(1, 40), 0);
        asks("50 by 50", living(50, 0), x -> x.painting(0, 40), NONE);
        asks("51 by 50", living(50, 0), x -> x.painting(0, 41), 1);
    }

    static void p22_least_and_most_heads_of_it() {
        asks("10 more than 0", living(9, 0), x -> x.painting(0, 0), 1);
        asks("10 more than 0", living(10, 0), x -> x.painting(0, 0), NONE);
        Maker high = with(living(99, 0), x -> x.lot(0, 0, 9));
        asks("109 by 108", high, x -> x.painting(0, 99), 1);
        asks("109 by 109", with(high, x -> x.lot(0, 0, 1)), x -> x.painting(0, 99), NONE);
    }

    static void p22_of_like_ones_the_least_village() {
        asks("painting(0, 99)", living(50, 0, 0), x -> x.painting(0, 99), 1);
        asks("painting(1, 99)", living(0, 50, 0), x -> x.painting(1, 99), 0);
        asks("painting(2, 99)", living(0, 0, 50), x -> x.painting(2, 99), 0);
        asks("like odds", with(living(50, 0, 0), x -> x.cloud(1, 5), x -> x.cloud(2, 5)), x -> x.painting(0, 99), 1);
    }

    static void p22_least_not_just_less() {
        asks("painting(0, 99)", with(living(50, 0, 0), x -> x.cloud(1, 5), x -> x.cloud(2, 4)), x -> x.painting(0, 99), 2);
    }

    static void p22_none_if_not_less_than_now() {
        asks("no LOTS", Edges::fresh, x -> x.painting(0, 99), NONE);
        asks("it loses nothing now", living(50, 40), x -> x.painting(1, 99), NONE);
        asks("one VILLAGE", living(50), x -> x.painting(0, 99), NONE);
        asks("it is always hidden", with(living(50, 0), x -> x.cloud(0, 10)), x -> x.painting(0, 99), NONE);
        asks("the other is always hidden", with(living(50, 0), x -> x.cloud(1, 10)), x -> x.painting(0, 99), NONE);
        asks("the other is hidden in 9 of 10", with(living(50, 0), x -> x.cloud(1, 9)), x -> x.painting(0, 99), 1);
    }

    static void p22_with_ten_lots_too() {
        Maker ten = with(last(2, 9, 1), x -> x.moon(3, false));
        asks("painting(0, 99)", ten, x -> x.painting(0, 99), 1);
    }

    // ---- 23 unseen

    /** ROADS 0 1, 1 2, 2 3, 3 4. */
    private static Maker chain() {
        return with(county(5), x -> x.road(0, 1), x -> x.road(1, 2), x -> x.road(2, 3), x -> x.road(3, 4));
    }

    static void p23_a_and_b_are_0_to_n_less_1() {
        for (int n = 2; n <= 5; n++) {
            ends(allRoads(n), (x, a) -> x.unseen(a, a == 0 ? 1 : 0), 0, 1, n - 1, 1, BAD);
            ends(allRoads(n), (x, b) -> x.unseen(b == 0 ? 1 : 0, b), 0, 1, n - 1, 1, BAD);
        }
    }

    static void p23_alike_is_bad() {
        int[] all = {0, 1, 2, 3, -1, MAX, MIN};
        for (int v : all) refused("unseen(v, v) of " + v, Edges::rich, x -> x.unseen(v, v), BAD, AS_BAD);
        refused("one VILLAGE", county(1), x -> x.unseen(0, 0), BAD, AS_BAD);
        refused("one VILLAGE", county(1), x -> x.unseen(0, 1), BAD, AS_BAD);
    }

    static void p23_one_road_to_four() {
        for (int i = 1; i < 5; i++) {
            int v = i;
            asks("unseen(0, " + v + ")", chain(), x -> x.unseen(0, v), v);
            asks("unseen(" + v + ", 0)", chain(), x -> x.unseen(v, 0), v);
        }
    }

    static void p23_none() {
        asks("no ROADS", county(5), x -> x.unseen(0, 4), NONE);
        asks("the last one is guarded", with(chain(), x -> x.guard(3, true)), x -> x.unseen(0, 4), NONE);
        asks("up to it there is", with(chain(), x -> x.guard(3, true)), x -> x.unseen(0, 3), 3);
        asks("the one ROAD is guarded", Edges::rich, x -> x.unseen(1, 2), NONE);
        asks("it is not any more", with(Edges::rich, x -> x.guard(1, false)), x -> x.unseen(1, 2), 1);
    }

    static void p23_a_guard_makes_it_longer() {
        Maker ring = with(chain(), x -> x.road(4, 0));
        asks("unseen(0, 4)", ring, x -> x.unseen(0, 4), 1);
        asks("unseen(0, 4)", with(ring, x -> x.guard(4, true)), x -> x.unseen(0, 4), 4);
        asks("unseen(0, 3)", ring, x -> x.unseen(0, 3), 2);
    }

    // ---- 24 cut

    static void p24_a_and_b_are_0_to_n_less_1() {
        for (int n = 2; n <= 5; n++) {
            ends(allRoads(n), (x, a) -> x.cut(a, a == 0 ? 1 : 0, 0), 0, n - 1, n - 1, n - 1, BAD);
            ends(allRoads(n), (x, b) -> x.cut(b == 0 ? 1 : 0, b, 0), 0, n - 1, n - 1, n - 1, BAD);
            outside(allRoads(n), (x, a) -> x.cut(a, a == 0 ? 1 : 0, 1), 0, n - 1, BAD);
            outside(allRoads(n), (x, b) -> x.cut(b == 0 ? 1 : 0, b, 1), 0, n - 1, BAD);
        }
    }

    static void p24_alike_is_bad() {
        int[] all = {0, 1, 2, 3, -1, MAX, MIN};
        for (int v : all) {
            refused("cut(v, v, 0) of " + v, Edges::rich, x -> x.cut(v, v, 0), BAD, AS_BAD);
            refused("cut(v, v, 1) of " + v, Edges::rich, x -> x.cut(v, v, 1), BAD, AS_BAD);
        }
        refused("one VILLAGE", county(1), x -> x.cut(0, 0, 0), BAD, AS_BAD);
    }

    static void p24_what_is_0_to_1() {
        ends(Edges::rich, (x, what) -> x.cut(0, 1, what), 0, 1, 1, 1, BAD);
        outside(county(5), (x, what) -> x.cut(0, 4, what), 0, 1, BAD);
    }

    private static void cut(Maker maker, int a, int b, int many, int side) {
        asks("cut(" + a + ", " + b + ", 0)", maker, x -> x.cut(a, b, 0), many);
        asks("cut(" + a + ", " + b + ", 1)", maker, x -> x.cut(a, b, 1), side);
    }

    static void p24_no_way_as_it_is() {
        cut(county(5), 0, 4, 0, 1);
        cut(county(5), 4, 0, 0, 16);
        cut(Edges::rich, 0, 2, 0, 3);
        cut(Edges::rich, 2, 0, 0, 4);
        cut(Edges::rich, 1, 2, 0, 3);
    }

    static void p24_of_like_ones_the_least_as_bits() {
        cut(chain(), 0, 4, 1, 1);
        cut(chain(), 4, 0, 1, 30);
        Maker backwards = with(county(5), x -> x.road(3, 4), x -> x.road(2, 3), x -> x.road(1, 2), x -> x.road(0, 1));
        cut(backwards, 0, 4, 1, 15);
        cut(backwards, 4, 0, 1, 16);
    }

    static void p24_fewer_go_ahead_of_lesser_bits() {
        // ROADS 0 and 1 would do, as 3; ROAD 2 alone does, as 4.
        Maker late = with(county(5), x -> x.road(0, 1), x -> x.road(0, 2), x -> x.road(4, 3), x -> x.road(1, 4), x -> x.road(2, 4));
        cut(late, 0, 3, 1, 1 + 2 + 4 + 16);
        cut(late, 3, 0, 1, 8);
    }

    static void p24_of_two_the_least_as_bits() {
        // A ring 0 1 2 3: from 0 to 2 ROADS 0 and 2 are the least, from 1 to 3 ROADS 0 and 1.
        Maker ring = with(county(4), x -> x.road(0, 1), x -> x.road(1, 2), x -> x.road(2, 3), x -> x.road(3, 0));
        cut(ring, 0, 2, 2, 1 + 8);
        cut(ring, 2, 0, 2, 4 + 2);
        cut(ring, 1, 3, 2, 2);
    }

    static void p24_those_guarded_are_not_counted() {
        Maker ring = with(chain(), x -> x.road(4, 0));
        cut(ring, 0, 4, 2, 1);
        cut(with(ring, x -> x.guard(4, true)), 0, 4, 1, 1);
        cut(with(ring, x -> x.guard(0, true)), 0, 4, 1, 1);
        cut(with(ring, x -> x.guard(0, true), x -> x.guard(4, true)), 0, 4, 0, 1);
        cut(with(ring, x -> x.guard(3, true), x -> x.guard(4, true)), 0, 4, 0, 15);
    }

    static void p24_all_ten_roads() {
        cut(allRoads(5), 0, 4, 4, 1);
        cut(allRoads(5), 4, 0, 4, 30);
    }

    static void p24_sets_no_guard() {
        DragonTithe x = chain().make();
        x.cut(0, 4, 0);
        x.cut(0, 4, 1);
        due("unseen(0, 4)", x.unseen(0, 4), 4);
    }

    // ---- 25 game

    static void p25_a_and_b_are_0_to_n_less_1() {
        for (int n = 2; n <= 5; n++) {
            ends(fifties(n), (x, a) -> x.game(a, a == 0 ? 1 : 0, 0), 0, 0, n - 1, 0, -10);
            ends(fifties(n), (x, b) -> x.game(b == 0 ? 1 : 0, b, 1), 0, NONE, n - 1, NONE, -10);
        }
    }

    static void p25_alike_is_bad() {
        int[] all = {0, 1, 2, 3, -1, MAX, MIN};
        for (int v : all) {
            refused("game(v, v, 0) of " + v, Edges::rich, x -> x.game(v, v, 0), -10, AS_BAD);
            refused("game(v, v, 1) of " + v, Edges::rich, x -> x.game(v, v, 1), -10, AS_BAD);
        }
        refused("one VILLAGE", county(1), x -> x.game(0, 0, 0), -10, AS_BAD);
    }

    static void p25_what_is_0_to_1() {
        ends(Edges::rich, (x, what) -> x.game(0, 1, what), 0, 16, 1, 0, -10);
    }

    private static void game(Maker maker, int a, int b, int many, int first) {
        asks("game(" + a + ", " + b + ", 0)", maker, x -> x.game(a, b, 0), many);
        asks("game(" + a + ", " + b + ", 1)", maker, x -> x.game(a, b, 1), first);
    }

    /** By x it is seen with x by 2, cut up, less: 2 for nothing (3), 4 for 1 (7), 5 for 2 (9). */
    static void p25_the_lesser_village_is_seen_more() {
        game(living(15, 10), 0, 1, 16, 0);
        game(living(14, 10), 0, 1, 12, 1);
        game(living(13, 10), 0, 1, 4, 3);
        game(living(12, 10), 0, 1, 0, NONE);
        game(living(11, 10), 0, 1, 0, NONE);
        game(living(10, 10), 0, 1, 0, NONE);
    }

    static void p25_the_greater_village_is_seen_more() {
        game(living(10, 11), 0, 1, 0, NONE);
        game(living(10, 12), 0, 1, 0, NONE);
        game(living(10, 13), 0, 1, 0, NONE);
        game(living(10, 14), 0, 1, 4, 30);
        game(living(10, 15), 0, 1, 12, 10);
        game(living(10, 16), 0, 1, 16, 0);
    }

    static void p25_the_other_way_round() {
        game(living(15, 10), 1, 0, 16, 0);
        game(living(14, 10), 1, 0, 12, 10);
        game(living(13, 10), 1, 0, 4, 30);
        game(living(10, 10), 1, 0, 0, NONE);
        game(living(10, 13), 1, 0, 0, NONE);
        game(living(10, 14), 1, 0, 4, 3);
        game(living(10, 15), 1, 0, 12, 1);
        game(living(10, 16), 1, 0, 16, 0);
    }

    static void p25_others_and_clouds_do_not_matter() {
        game(with(living(14, 99, 10), x -> x.cloud(0, 10)), 0, 2, 12, 1);
        game(with(living(14, 99, 10), x -> x.cloud(2, 10)), 2, 0, 12, 10);
    }

    static void p25_asked_again_behind_another_one() {
        DragonTithe x = living(16, 10, 10).make();
        due("game(0, 1, 0)", x.game(0, 1, 0), 16);
        due("game(0, 1, 0)", x.game(0, 1, 0), 16);
        due("game(1, 2, 0)", x.game(1, 2, 0), 0);
        due("game(0, 2, 1)", x.game(0, 2, 1), 0);
        due("game(1, 2, 1)", x.game(1, 2, 1), NONE);
        due("game(0, 1, 0)", x.game(0, 1, 0), 16);
    }

    // ---- 26 league

    static void p26_some_are_bits_of_the_villages() {
        for (int n = 1; n <= 5; n++) ends(fifties(n), (x, some) -> x.league(some), 0, 0, (1 << n) - 1, 5, BAD);
        outside(Edges::rich, (x, some) -> x.league(some), 0, 7, BAD);
    }

    static void p26_none_some_and_all() {
        int[] want = {0, 8, 1, 1, 7, 8, 1, 1};
        for (int i = 0; i < 8; i++) {
            int some = i;
            asks("league(" + some + ")", Edges::rich, x -> x.league(some), want[some]);
        }
    }

    static void p26_nothing_is_seen() {
        asks("no LOTS", county(5), x -> x.league(31), 0);
        asks("a SUNK head", with(county(1), x -> x.lot(1, 0, 1)), x -> x.league(1), 0);
        asks("two", with(county(1), x -> x.lot(1, 0, 2)), x -> x.league(1), 1);
    }

    static void p26_of_like_ones_the_least() {
        Maker like = with(county(3), x -> x.lot(2, 0, 40), x -> x.lot(0, 1, 50), x -> x.lot(1, 2, 99), x -> x.lot(0, 2, 1));
        asks("league(7)", like, x -> x.league(7), 0);
        asks("league(6)", like, x -> x.league(6), 5);
        asks("league(4)", like, x -> x.league(4), 11);
    }

    static void p26_no_clouds() {
        asks("league(7)", with(fifties(3), x -> x.cloud(0, 10), x -> x.cloud(1, 10), x -> x.cloud(2, 10)), x -> x.league(7), 5);
    }

    // ---- 27 share

    static void p27_village_is_0_to_n_less_1() {
        for (int n = 1; n <= 5; n++) ends(fifties(n), (x, v) -> x.share(v), 0, 1, n - 1, 1, BAD);
        outside(Edges::rich, (x, v) -> x.share(v), 0, 2, BAD);
    }

    static void p27_none_is_bad() {
        refused("share(NONE)", Edges::rich, x -> x.share(NONE), BAD, AS_BAD);
    }

    static void p27_like_ones_share_alike() {
        long[][] want = {{5, 1}, {5, 2}, {5, 3}, {5, 4}, {1, 1}};
        for (int n = 1; n <= 5; n++) {
            int last = n - 1;
            makes("share(0) of " + n, fifties(n), x -> x.share(0), want[last][0], want[last][1]);
            makes("share(" + last + ") of " + n, fifties(n), x -> x.share(last), want[last][0], want[last][1]);
        }
    }

    static void p27_below_0_above_0_and_0() {
        makes("share(0)", Edges::rich, x -> x.share(0), 17, 6);
        makes("share(1)", Edges::rich, x -> x.share(1), -25, 6);
        makes("share(2)", Edges::rich, x -> x.share(2), 7, 3);
        makes("it adds nothing", living(50, 0), x -> x.share(1), 0, 1);
        makes("no LOTS", county(5), x -> x.share(4), 0, 1);
    }

    static void p27_below_0_in_lowest_terms() {
        // 50 LIVING alone lose 5; with 99 PAINTED over there none: -5 in one of two orders.
        makes("share(1)", with(living(50, 0), x -> x.lot(2, 1, 99)), x -> x.share(1), -5, 2);
        // 0 loses 4 alone and 0 with the painted one: -4 by 2.
        makes("share(1)", with(living(40, 0), x -> x.lot(2, 1, 99)), x -> x.share(1), -2, 1);
    }

    // ---- 28 pays

    static void p28_village_is_0_to_n_less_1() {
        for (int n = 1; n <= 5; n++) ends(fifties(n), (x, v) -> x.pays(v, 0), 0, 0, n - 1, 0, BAD);
        outside(Edges::rich, (x, v) -> x.pays(v, 40), 0, 2, BAD);
    }

    static void p28_m_is_0_to_40() {
        ends(living(50), (x, m) -> x.pays(0, m), 0, 0, 40, 5, BAD);
        outside(Edges::rich, (x, m) -> x.pays(1, m), 0, 40, BAD);
    }

    static void p28_counts_once_if_both_are_bad() {
        refused("pays(3, 41)", Edges::rich, x -> x.pays(3, 41), BAD, AS_BAD);
    }

    static void p28_from_growth_0_to_9() {
        for (int i = 1; i <= 9; i++) {
            int g = i;
            asks("of " + 10 * g, living(10 * g), x -> x.pays(0, 1), g);
        }
        asks("nothing is taken", living(0, 50), x -> x.pays(0, 40), 0);
        asks("nothing to lose", living(0), x -> x.pays(0, 40), 0);
    }

    static void p28_none() {
        asks("90", living(90), x -> x.pays(0, 1), 9);
        asks("91", living(91), x -> x.pays(0, 1), NONE);
        asks("a DECOY", with(county(1), x -> x.lot(5, 0, 1)), x -> x.pays(0, 1), NONE);
        asks("behind no MOON", with(county(1), x -> x.lot(5, 0, 1)), x -> x.pays(0, 0), 0);
        asks("one head", living(1), x -> x.pays(0, 1), NONE);
    }

    static void p28_just_as_many_is_enough() {
        asks("of 99: 89 and 9 are 98", living(99), x -> x.pays(0, 1), NONE);
        asks("of two, 90 and 10: 10 are lost", with(living(90), x -> x.lot(0, 0, 10)), x -> x.pays(0, 1), 5);
        asks("of two, 90 and 20: 11 are lost", with(living(90), x -> x.lot(0, 0, 20)), x -> x.pays(0, 1), 6);
    }

    static void p28_by_the_moons_number() {
        Maker lent = with(county(1), x -> x.lot(3, 0, 50));
        asks("MOON 0", lent, x -> x.pays(0, 1), 5);
        asks("MOONS 0, 1", lent, x -> x.pays(0, 2), 3);
        asks("MOON 1", with(lent, x -> x.moon(1, false)), x -> x.pays(0, 1), 0);
        asks("MOONS 1, 2", with(lent, x -> x.moon(1, false)), x -> x.pays(0, 2), 3);
    }

    static void p28_growth_and_odds_as_they_are_do_not_matter() {
        asks("pays(0, 1)", with(living(50), x -> x.growth(9)), x -> x.pays(0, 1), 5);
        asks("pays(0, 1)", with(living(50), x -> x.cloud(0, 10)), x -> x.pays(0, 1), 5);
    }

    static void p28_one_dragon() {
        asks("pays(1, 1)", living(50, 40), x -> x.pays(1, 1), 0);
        asks("pays(0, 1)", living(50, 40), x -> x.pays(0, 1), 5);
    }

    // ---- 29 told

    static void p29_i_is_0_to_2() {
        ends(Edges::rich, (x, i) -> x.told(i, 5), 0, 8, 2, 1, BAD);
    }

    static void p29_n_is_0_to_999() {
        ends(Edges::rich, (x, n) -> x.told(1, n), 0, 999, 999, 999, BAD);
        ends(Edges::fresh, (x, n) -> x.told(0, n), 0, 0, 999, 0, BAD);
    }

    static void p29_counts_once_if_both_are_bad() {
        refused("told(3, 1000)", Edges::rich, x -> x.told(3, 1000), BAD, AS_BAD);
    }

    static void p29_of_this_moon_alone() {
        DragonTithe x = with(Edges::rich, y -> y.told(1, 0)).make();
        due("told(0, 0)", x.told(0, 0), 8);
        due("told(1, 0)", x.told(1, 0), 0);
        due("told(2, 0)", x.told(2, 0), 1);
    }

    static void p29_the_same_again_changes_nothing() {
        asks("told(1, 999)", Edges::rich, x -> x.told(1, 999), 999);
    }

    // ---- 30 fit

    static void p30_m_is_1_to_3() {
        ends(Edges::fresh, (x, m) -> x.fit(m, 0), 1, 8, 3, 512, -10);
        outside(Edges::rich, (x, m) -> x.fit(m, 1), 1, 3, -10);
    }

    static void p30_what_is_0_to_1() {
        ends(Edges::fresh, (x, what) -> x.fit(1, what), 0, 8, 1, 0, -10);
        outside(Edges::rich, (x, what) -> x.fit(3, what), 0, 1, -10);
    }

    static void p30_counts_once_if_both_are_bad() {
        refused("fit(0, 2)", Edges::rich, x -> x.fit(0, 2), -10, AS_BAD);
        refused("fit(4, -1)", Edges::rich, x -> x.fit(4, -1), -10, AS_BAD);
    }

    private static void fit(Maker maker, int m, int many, int first) {
        asks("fit(" + m + ", 0)", maker, x -> x.fit(m, 0), many);
        asks("fit(" + m + ", 1)", maker, x -> x.fit(m, 1), first);
    }

    static void p30_all_rows_fit() {
        for (int n = 1; n <= 5; n++) {
            int each = 1 << n;
            fit(county(n), 1, each, 0);
            fit(county(n), 2, each * each, 0);
            fit(county(n), 3, each * each * each, 0);
        }
    }

    static void p30_the_last_row_alone_fits() {
        fit(fifties(5), 1, 1, 31);
        fit(fifties(5), 2, 1, 1023);
        fit(fifties(5), 3, 1, 32767);
        fit(fifties(1), 3, 1, 1024 + 32 + 1);
    }

    static void p30_none() {
        for (int m = 1; m <= 3; m++) fit(with(fifties(3), x -> x.told(0, 4)), m, 0, NONE);
        for (int m = 1; m <= 3; m++) fit(with(county(5), x -> x.told(0, 999)), m, 0, NONE);
    }

    static void p30_told_of_later_moons_is_not_asked() {
        Maker late = with(county(2), x -> x.told(1, 999));
        fit(late, 1, 4, 0);
        fit(late, 2, 0, NONE);
        fit(late, 3, 0, NONE);
        Maker later = with(county(2), x -> x.told(2, 999));
        fit(later, 2, 16, 0);
        fit(later, 3, 0, NONE);
    }

    static void p30_first_moon_is_highest() {
        Maker one = with(living(50), x -> x.told(0, 5), x -> x.told(1, 0), x -> x.told(2, 5));
        fit(one, 1, 1, 0);
        fit(one, 2, 1, 1);
        fit(one, 3, 1, 32);
        Maker other = with(living(50), x -> x.told(0, 0), x -> x.told(1, 5), x -> x.told(2, 5));
        fit(other, 3, 1, 1024);
    }

    static void p30_the_first_of_some() {
        // 5 of VILLAGE 0 by CLOUDS 0 and 2, 4 of VILLAGE 1 by 1, nothing by 3.
        Maker two = living(50, 40);
        fit(with(two, x -> x.told(0, 5)), 1, 2, 0);
        fit(with(two, x -> x.told(0, 4)), 1, 1, 1);
        fit(two, 1, 1, 3);
        fit(with(two, x -> x.told(0, 4), x -> x.told(1, 5)), 2, 2, 32);
    }

    static void p30_like_tolls_of_two_villages() {
        // 5 of VILLAGE 0 by CLOUDS 0 and 2, of VILLAGE 1 by 1.
        fit(with(living(50, 49), x -> x.told(0, 5)), 1, 3, 0);
    }

    static void p30_heads_grow_between() {
        Maker grows = with(living(50), x -> x.growth(9), x -> x.told(0, 5), x -> x.told(1, 6));
        fit(grows, 2, 1, 0);
        fit(with(grows, x -> x.growth(0)), 2, 0, NONE);
    }

    static void p30_by_the_moons_number() {
        Maker lent = with(county(1), x -> x.lot(3, 0, 50));
        fit(lent, 1, 1, 1);
        fit(with(lent, x -> x.moon(1, false)), 1, 2, 0);
        fit(with(lent, x -> x.moon(1, false)), 2, 2, 1);
    }

    static void p30_the_most_that_can_be_taken() {
        Maker most = () -> {
            DragonTithe x = county(5).make();
            for (int i = 0; i < 10; i++) x.lot(0, 4, 99);
            return x;
        };
        fit(with(most, x -> x.told(0, 100), x -> x.told(1, 90), x -> x.told(2, 80)), 3, 4096, 0);
        fit(with(most, x -> x.told(0, 99)), 1, 0, NONE);
    }

    static void p30_one_dragon() {
        fit(with(living(50, 40), x -> x.told(0, 9)), 1, 0, NONE);
    }

    static void p30_asked_again_behind_another_one() {
        DragonTithe x = fifties(5).make();
        due("fit(3, 1)", x.fit(3, 1), 32767);
        due("fit(1, 1)", x.fit(1, 1), 31);
        due("fit(2, 0)", x.fit(2, 0), 1);
        due("fit(2, 0)", x.fit(2, 0), 1);
        x.told(0, 5);
        due("fit(1, 0)", x.fit(1, 0), 31);
        due("fit(1, 1)", x.fit(1, 1), 0);
        x.county(1);
        due("fit(1, 0)", x.fit(1, 0), 2);
        due("fit(3, 0)", x.fit(3, 0), 8);
        x.lot(0, 0, 50);
        x.told(0, 0);
        due("fit(1, 0)", x.fit(1, 0), 1);
        due("fit(1, 1)", x.fit(1, 1), 1);
        due("fit(3, 1)", x.fit(3, 1), 1024 + 32 + 1);
    }

    // ---- 31 drawn

    /** One DECOY of 99 HEADS in VILLAGE v of n, of these ODDS: 1 is TAKEN in each MOON in which it is not hidden. */
    private static Maker decoy(int n, int v, int c) {
        return with(county(n), x -> x.lot(5, v, 99), x -> x.cloud(v, c));
    }

    /** In how many of m MOONS VILLAGE v of n is not hidden, told with numbers that can not run over. */
    private static int clear(int n, int v, int c, int m, int seed) {
        BigInteger x = BigInteger.valueOf(seed);
        int clear = 0;
        for (int draw = 0; draw < m * n; draw++) {
            x = x.multiply(BigInteger.valueOf(1103515245)).add(BigInteger.valueOf(12345)).mod(BigInteger.valueOf(2147483648L));
            int figure = x.divide(BigInteger.valueOf(65536)).mod(BigInteger.TEN).intValue();
            if (draw % n == v && figure >= c) clear++;
        }
        return clear;
    }

    static void p31_m_is_0_to_60() {
        ends(decoy(1, 0, 0), (x, m) -> x.drawn(m, 1), 0, 0, 60, 60, BAD);
        outside(Edges::rich, (x, m) -> x.drawn(m, 0), 0, 60, BAD);
        asks("drawn(1, 1)", decoy(1, 0, 0), x -> x.drawn(1, 1), 1);
        asks("drawn(59, 1)", decoy(1, 0, 0), x -> x.drawn(59, 1), 59);
    }

    static void p31_seed_is_0_to_999999() {
        ends(decoy(1, 0, 0), (x, seed) -> x.drawn(1, seed), 0, 1, 999999, 1, BAD);
        outside(Edges::rich, (x, seed) -> x.drawn(60, seed), 0, 999999, BAD);
        outside(Edges::rich, (x, seed) -> x.drawn(0, seed), 0, 999999, BAD);
    }

    static void p31_counts_once_if_both_are_bad() {
        refused("drawn(61, 1000000)", Edges::rich, x -> x.drawn(61, 1000000), BAD, AS_BAD);
    }

    static void p31_odds_0_to_10() {
        int[] seeds = {0, 1, 2, 65535, 65536, 500000, 999998, 999999};
        for (int seed : seeds) {
            for (int c = 0; c <= 10; c++) {
                due("c is " + c + ", SEED " + seed, decoy(1, 0, c).make().drawn(60, seed), clear(1, 0, c, 60, seed));
            }
        }
        asks("never hidden", decoy(1, 0, 0), x -> x.drawn(60, 999999), 60);
        asks("always hidden", decoy(1, 0, 10), x -> x.drawn(60, 999999), 0);
    }

    static void p31_first_draws_by_hand() {
        // SEED 0: 12345, by 65536 0. SEED 1: 1103527590, by 65536 16838, 8 left over.
        asks("SEED 0, c 1", decoy(1, 0, 1), x -> x.drawn(1, 0), 0);
        asks("SEED 0, c 0", decoy(1, 0, 0), x -> x.drawn(1, 0), 1);
        asks("SEED 1, c 8", decoy(1, 0, 8), x -> x.drawn(1, 1), 1);
        asks("SEED 1, c 9", decoy(1, 0, 9), x -> x.drawn(1, 1), 0);
    }

    static void p31_product_runs_over_32_and_31_bits() {
        // 999999 times 1103515245 and 12345 is 1103514141497100; by 2147483648 1751684876 is left over, by 65536 26728: 8 left over.
        asks("c is 8", decoy(1, 0, 8), x -> x.drawn(1, 999999), 1);
        asks("c is 9", decoy(1, 0, 9), x -> x.drawn(1, 999999), 0);
        for (int m = 1; m <= 60; m++) {
            int moons = m;
            due("drawn(" + m + ", 999999)", decoy(1, 0, 5).make().drawn(moons, 999999), clear(1, 0, 5, moons, 999999));
        }
    }

    static void p31_a_draw_for_each_village_in_order() {
        for (int n = 1; n <= 5; n++) {
            for (int v = 0; v < n; v++) {
                due("VILLAGE " + v + " of " + n, decoy(n, v, 5).make().drawn(60, 4321), clear(n, v, 5, 60, 4321));
            }
        }
    }

    static void p31_one_dragon() {
        asks("drawn(1, 1)", living(50, 40), x -> x.drawn(1, 1), 5);
    }

    static void p31_of_all_villages() {
        // 5 of 50, then 5 of 49, 5 of 45, 5 of 44: they take turns.
        asks("drawn(4, 1)", living(50, 49), x -> x.drawn(4, 1), 20);
    }

    static void p31_heads_run_out() {
        asks("one head", with(county(1), x -> x.lot(0, 0, 1)), x -> x.drawn(60, 1), 1);
        asks("no LOTS", county(5), x -> x.drawn(60, 1), 0);
    }

    static void p31_changes_nothing() {
        DragonTithe x = rich();
        long before = x.digest();
        int first = x.drawn(60, 123456);
        due("digest", x.digest(), before);
        due("again", x.drawn(60, 123456), first);
        asks("drawn(0, 5)", Edges::rich, y -> y.drawn(0, 5), 0);
    }
}
