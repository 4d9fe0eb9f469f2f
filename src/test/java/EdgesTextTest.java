/** Boundary cases of THE TEXT and of the COUNTY that it tells: promises 11 to 13. */
public final class EdgesTextTest extends Edges {
    /** Each ITEM once, none refused; the words begin at the first row's places and end at the second's. */
    private static final String ALL = "county 3;lot 0 1 99;growth 9;cloud 2 10;road 0 1;guard 0;";
    private static final int[] WORDS = {0, 9, 20, 29, 40, 49}, BEHIND_WORDS = {6, 12, 26, 34, 44, 54};
    private static final int[] BEHIND_ITEMS = {9, 20, 29, 40, 49, 57};

    public static void main(String[] args) {
        runAll(EdgesTextTest.class, 11, 13);
    }

    // ---- 11 type

    static void p11_byte_is_0_to_127() {
        ends(Edges::rich, (x, c) -> x.type(c), 0, 37, 127, 37, BAD);
    }

    static void p11_each_byte_is_taken() {
        DragonTithe x = fresh();
        for (int c = 0; c < 128; c++) due("type(" + c + ")", x.type(c), c + 1);
        due("count(5)", x.count(5), 128);
    }

    static void p11_150_bytes_at_most() {
        taken("the first", Edges::fresh, x -> x.type('a'), 1);
        taken("the 150th", text(Edges::rich, blanks(149)), x -> x.type('a'), 150);
        refused("the 151st", text(Edges::rich, blanks(150)), x -> x.type('a'), FULL, AS_FULL);
        refused("the 151st", text(Edges::rich, "county 2;" + blanks(141)), x -> x.type(0), FULL, AS_FULL);
        refused("the 151st", text(Edges::rich, "county 2;" + blanks(141)), x -> x.type(127), FULL, AS_FULL);
    }

    static void p11_bad_goes_ahead_of_full() {
        outside(text(Edges::rich, "county 2;" + blanks(141)), (x, c) -> x.type(c), 0, 127, BAD);
    }

    static void p11_full_again_and_again() {
        DragonTithe x = text(Edges::fresh, blanks(150)).make();
        for (int i = 0; i < 5; i++) due("type(32)", x.type(32), FULL);
        status(x, 0, 0, 5);
        due("count(5)", x.count(5), 150);
    }

    static void p11_comes_behind() {
        due("read() of 'county 3;#'", text(Edges::fresh, "county 3;#").make().read(), -19);
        due("read() of '#county 3;'", text(Edges::fresh, "#county 3;").make().read(), -10);
    }

    static void p11_all_else_stays() {
        DragonTithe x = rich(), twin = rich();
        x.type(' ');
        twin.clear();
        x.clear();
        due("digest", x.digest(), twin.digest());
        due("count(4)", x.count(4), 4);
    }

    // ---- 12 clear

    static void p12_an_empty_one() {
        asks("clear()", Edges::fresh, DragonTithe::clear, 0);
        asks("clear() again", with(Edges::rich, DragonTithe::clear), DragonTithe::clear, 0);
    }

    static void p12_one_byte_and_150() {
        taken("clear()", text(Edges::fresh, "a"), DragonTithe::clear, 1);
        DragonTithe x = taken("clear()", text(Edges::rich, blanks(150)), DragonTithe::clear, 150);
        due("count(5)", x.count(5), 0);
        due("type(32)", x.type(32), 1);
    }

    static void p12_nothing_of_it_is_left() {
        DragonTithe x = taken("clear()", Edges::rich, DragonTithe::clear, 36);
        due("read()", x.read(), -10);
        type(x, "county");
        due("read(): the old figure is gone", x.read(), -16);
    }

    static void p12_all_else_stays() {
        DragonTithe x = rich(), twin = rich();
        x.clear();
        type(x, "county 2;lot 0 1 7;road 1 0;guard 0;");
        fraction(x, 7, 10);
        status(x, 1, 1, 1);
        if (!drain(x).equals(drain(twin))) due("changed something", 1, 0);
    }

    // ---- 13 read: FAULT

    /** The FAULT is at this place; nothing changes, and nothing counts as refused. */
    private static void fault(String text, int place) {
        asks("read() of '" + text + "'", text(Edges::rich, text), DragonTithe::read, -10 - place);
    }

    /** The ITEM of this number is refused; nothing changes, and nothing counts as refused. */
    private static void item(String text, int number) {
        asks("read() of '" + text + "'", text(Edges::rich, text), DragonTithe::read, -1000 - number);
    }

    private static DragonTithe reads(String text, int items) {
        return taken("read() of '" + text + "'", text(Edges::rich, text), DragonTithe::read, items);
    }

    static void p13_empty_text() {
        fault("", 0);
    }

    static void p13_blanks_alone() {
        fault(" ", 1);
        fault("  ", 2);
        fault(blanks(150), 150);
    }

    /** Cut behind each byte: in a word it is a word that is none, else the TEXT ends too early or just in time. */
    static void p13_text_cut_at_each_place() {
        for (int length = 0; length <= ALL.length(); length++) {
            int inWord = -1, items = -1;
            for (int i = 0; i < 6; i++) {
                if (WORDS[i] < length && length < BEHIND_WORDS[i]) inWord = WORDS[i];
                if (length == BEHIND_ITEMS[i]) items = i + 1;
            }
            String cut = ALL.substring(0, length);
            if (items > 0) reads(cut, items);
            else fault(cut, inWord >= 0 ? inWord : length);
        }
    }

    static void p13_text_ends_too_early_behind_blanks() {
        fault("county ", 7);
        fault("county 3  ", 10);
        fault("county 3;lot  ", 14);
        fault("county 3;lot 0 0 1   ", 21);
        fault("county 3" + blanks(142), 150);
    }

    static void p13_a_word_that_is_none() {
        fault("x", 0);
        fault(" counties 3;", 1);
        fault("count 3;", 0);
        fault("countyx 3;", 0);
        fault("xcounty 3;", 0);
        fault("countycounty 3;", 0);
        fault("county 3;lots 0 0 1;", 9);
        fault("county 3;lo 0 0 1;", 9);
        fault("county 3;growt 1;", 9);
        fault("county 3;growths 1;", 9);
        fault("county 3; clouds 0 1;", 10);
        fault("county 3;clout 0 1;", 9);
        fault("county 3;roads 0 1;", 9);
        fault("county 3;roa 0 1;", 9);
        fault("county 3;guards 0;", 9);
        fault("county 3;growth 1;guar 0;", 18);
        fault("county 3;lotlot 0 0 1;", 9);
    }

    static void p13_a_word_that_is_none_where_a_number_is_due() {
        fault("county x 3;", 7);
        fault("county 3;lot x 0 1;", 13);
        fault("county 3;lot 0 x 1;", 15);
        fault("county 3;lot 0 0 x;", 17);
        fault("county 3;cloud 0 x;", 17);
        fault("county 3;road 0 x;", 16);
    }

    static void p13_a_word_that_is_none_where_a_stop_is_due() {
        fault("county 3 x", 9);
        fault("county 3 x;", 9);
        fault("county 3;growth 1 x;", 18);
    }

    /** Each letter of each word, one further in the row of letters. */
    static void p13_each_letter_of_each_word_counts() {
        for (int i = 0; i < 6; i++) {
            for (int at = WORDS[i]; at < BEHIND_WORDS[i]; at++) {
                char other = (char) (ALL.charAt(at) == 'z' ? 'a' : ALL.charAt(at) + 1);
                fault(ALL.substring(0, at) + other + ALL.substring(at + 1), WORDS[i]);
            }
        }
    }

    static void p13_a_word_in_great_letters_is_none() {
        fault("County 3;", 0);
        fault("COUNTY 3;", 0);
        fault("counTy 3;", 0);
        fault("county 3;Lot 0 0 1;", 9);
    }

    static void p13_a_word_up_to_the_150th_byte() {
        fault("a".repeat(150), 0);
        fault(blanks(144) + "county", 150);
        fault(blanks(145) + "count", 145);
    }

    static void p13_county_again() {
        fault("county 3;county 3;", 9);
        fault("county 3;lot 0 0 1;county 3;", 19);
        fault("county county 3;", 7);
        fault("county 3 county", 9);
        fault("county 3;county", 9);
        fault("county 9;county 3;", 9);
    }

    static void p13_anything_ahead_of_county() {
        String[] words = {"lot 0 0 1;", "growth 1;", "cloud 0 1;", "road 0 1;", "guard 0;", ";", "3 ", "3;", "12", "x ", "#"};
        for (String w : words) {
            fault(w + "county 3;", 0);
            fault("  " + w + "county 3;", 2);
            fault(w, 0);
        }
    }

    static void p13_a_number_of_two_figures_is_the_longest() {
        reads("county 3;", 1);
        reads("county 03;", 1);
        fault("county 003;", 7);
        fault("county 0003;", 7);
        fault("county 100;", 7);
        reads("county 3;lot 00 01 99;", 2);
        fault("county 3;lot 000 01 99;", 13);
        fault("county 3;lot 00 001 99;", 16);
        fault("county 3;lot 00 01 099;", 19);
        fault("county 3;lot 00 01 100;", 19);
        reads("county 3;growth 09;", 2);
        fault("county 3;growth 009;", 16);
        reads("county 3;cloud 02 10;", 2);
        fault("county 3;cloud 002 10;", 15);
        fault("county 3;cloud 02 010;", 18);
        reads("county 3;road 00 02;guard 00;", 3);
        fault("county 3;road 000 02;", 14);
        fault("county 3;road 00 002;", 17);
        fault("county 3;road 0 2;guard 000;", 24);
    }

    static void p13_a_third_figure_where_one_more_number_is_due() {
        fault("county 3;lot 0100 5;", 13);
        fault("county 3;lot 001;", 13);
        fault("county 3;road 012;", 14);
        fault("county 3;cloud 1000;", 15);
    }

    static void p13_a_third_figure_where_no_number_is_due() {
        fault("123", 0);
        fault("county 3;123;", 9);
        fault("county 3 123;", 9);
        fault("county 3;lot 0 0 1 123;", 19);
    }

    static void p13_a_third_figure_at_the_end() {
        fault("county100", 6);
        fault("county 12", 9);
        fault("county 123", 7);
        fault("county 3;lot 0 0 100", 17);
        fault("county " + "1".repeat(143), 7);
        fault("9".repeat(150), 0);
    }

    /** Between a word and its number: a blank, or what makes the word or the number longer. */
    static void p13_each_byte_behind_a_word() {
        for (int c = 0; c < 128; c++) {
            String text = "county" + (char) c + "3;";
            if (c == ' ' || c == '0') reads(text, 1);
            else if (c >= '1' && c <= '9') item(text, 0);
            else fault(text, c >= 'a' && c <= 'z' ? 0 : 6);
        }
    }

    static void p13_each_byte_behind_a_number() {
        for (int c = 0; c < 128; c++) {
            String text = "county 3" + (char) c + ";";
            if (c == ' ') reads(text, 1);
            else if (c >= '0' && c <= '9') item(text, 0);
            else fault(text, c == ';' ? 9 : 8);
        }
    }

    static void p13_each_byte_ahead_of_all() {
        for (int c = 0; c < 128; c++) {
            String text = (char) c + "county 3;";
            if (c == ' ') reads(text, 1);
            else fault(text, 0);
        }
    }

    static void p13_each_byte_behind_an_item() {
        for (int c = 0; c < 128; c++) {
            String text = "county 3;" + (char) c;
            if (c == ' ') reads(text, 1);
            else fault(text, 9);
        }
    }

    static void p13_each_byte_alone() {
        for (int c = 0; c < 128; c++) fault("" + (char) c, c == ' ' ? 1 : 0);
    }

    static void p13_a_byte_that_begins_none_in_a_word() {
        fault("cou#nty 3;", 0);
        fault("county#3;", 6);
        fault("county 3;lot\t0 0 1;", 12);
        fault("county 3;\n", 9);
        fault("county 3;lot -1 0 1;", 13);
        fault("county 3;lot 0,0 1;", 14);
        fault("county 3;lot 0.0 1;", 14);
    }

    static void p13_a_number_or_stop_where_a_word_is_due() {
        fault("county 3;0;", 9);
        fault("county 3;;", 9);
        fault("county 3; ;", 10);
        fault("county 3;growth 1;;", 18);
        fault("county 3;growth 1; 1;", 19);
    }

    static void p13_a_word_or_stop_where_a_number_is_due() {
        fault("county;", 6);
        fault("county x;", 7);
        fault("county lot;", 7);
        fault("county 3;lot;", 12);
        fault("county 3;lot 0;", 14);
        fault("county 3;lot 0 0;", 16);
        fault("county 3;lot 0 lot 1;", 15);
        fault("county 3;growth;", 15);
        fault("county 3;cloud;", 14);
        fault("county 3;cloud 0;", 16);
        fault("county 3;road;", 13);
        fault("county 3;road 0;", 15);
        fault("county 3;guard;", 14);
        fault("county 3;road 0 1;guard x;", 24);
    }

    static void p13_a_number_or_word_where_a_stop_is_due() {
        fault("county 3 3;", 9);
        fault("county 3 lot 0 0 1;", 9);
        fault("county 3lot 0 0 1;", 8);
        fault("county 3;lot 0 0 1 1;", 19);
        fault("county 3;growth 1 1;", 18);
        fault("county 3;cloud 0 1 1;", 19);
        fault("county 3;road 0 1 1;", 18);
        fault("county 3;road 0 1;guard 0 0;", 26);
        fault("county 3;guard 0 guard 0;", 17);
    }

    static void p13_blanks_between_tokens_are_free() {
        reads("county3;", 1);
        reads("   county   3   ;   ", 1);
        reads("county 3;lot0 0 1;growth1;cloud0 1;road0 1;guard0;", 6);
        reads("county 3 ; lot 0  0   1 ;", 2);
        reads(blanks(141) + "county 3;", 1);
        reads("county 3;" + blanks(141), 1);
        reads("county" + blanks(142) + "3;", 1);
    }

    static void p13_150th_byte_ends_it_in_time_or_not() {
        reads("county 3;" + blanks(132) + "growth 1;", 2);
        fault("county 3;" + blanks(133) + "growth 1;", 150);
        fault("county 3;" + blanks(134) + "growth 1;", 150);
        fault("county 3;" + blanks(136) + "growth 1;", 145);
    }

    // ---- 13 read: ITEMS

    static void p13_each_item_once() {
        DragonTithe x = reads(ALL, 6);
        due("digest", x.digest(), digestOf(3, 1, 1, 0, 0, 57, 9, 0, 0, 10, 0, 1, 99, 0, 1, 1, 0, 0, 0, 7, 10));
    }

    static void p13_county_is_1_to_5() {
        for (int n = 1; n <= 5; n++) due("count(0)", reads("county " + n + ";", 1).count(0), n);
        item("county 0;", 0);
        item("county 00;", 0);
        item("county 6;", 0);
        item("county 10;", 0);
        item("county 99;", 0);
    }

    static void p13_lot_is_refused_as_its_call() {
        due("KIND", reads("county 3;lot 5 2 99;", 2).of(0, 0), 5);
        item("county 3;lot 6 2 99;", 1);
        item("county 3;lot 5 3 99;", 1);
        item("county 3;lot 99 99 99;", 1);
        for (int n = 1; n <= 5; n++) {
            due("VILLAGE", reads("county " + n + ";lot 0 " + (n - 1) + " 0;", 2).of(0, 1), n - 1);
            item("county " + n + ";lot 0 " + n + " 0;", 1);
        }
    }

    static void p13_tenth_lot_is_the_last() {
        String ten = "county 1;" + "lot 0 0 9;".repeat(10);
        due("count(1)", reads(ten, 11).count(1), 10);
        item(ten + "lot 0 0 9;", 11);
        item(ten + "growth 1;lot 0 0 9;", 12);
    }

    static void p13_growth_is_0_to_9() {
        due("count(6)", reads("county 3;growth 9;", 2).count(6), 9);
        due("count(6)", reads("county 3;growth 0;", 2).count(6), 0);
        item("county 3;growth 10;", 1);
        item("county 3;growth 99;", 1);
    }

    static void p13_cloud_is_refused_as_its_call() {
        due("ODDS", reads("county 3;cloud 2 10;", 2).cloud(2, 0), 10);
        item("county 3;cloud 3 10;", 1);
        item("county 3;cloud 2 11;", 1);
        item("county 1;cloud 1 0;", 1);
    }

    static void p13_road_is_refused_as_its_call() {
        due("count(2)", reads("county 3;road 2 0;", 2).count(2), 1);
        item("county 3;road 1 1;", 1);
        item("county 3;road 0 3;", 1);
        item("county 3;road 3 0;", 1);
        item("county 3;road 3 3;", 1);
        item("county 3;road 0 1;road 0 1;", 2);
        item("county 3;road 0 1;road 1 0;", 2);
        item("county 1;road 0 0;", 1);
    }

    static void p13_guard_is_refused_as_its_call() {
        reads("county 3;road 0 1;road 1 2;guard 1;guard 0;", 5);
        item("county 3;guard 0;", 1);
        item("county 3;road 0 1;guard 1;", 2);
        item("county 3;road 0 1;guard 0;guard 0;", 3);
        item("county 3;guard 0;road 0 1;", 1);
    }

    static void p13_the_first_that_is_refused() {
        item("county 0;lot 9 0 0;growth 10;", 0);
        item("county 3;lot 9 0 0;growth 10;", 1);
        item("county 3;lot 0 0 0;growth 10;lot 9 0 0;", 2);
        item("county 3;lot 0 0 0;growth 1;lot 9 0 0;", 3);
    }

    static void p13_a_fault_goes_ahead_of_a_refused_item() {
        fault("county 0;x", 9);
        fault("county 0;lot", 12);
        fault("county 9;lot 9 9 100;", 17);
        fault("county 3;growth 10;;", 19);
        fault("county 3;growth 10", 18);
    }

    static void p13_as_many_items_as_bytes_allow() {
        reads("county1;" + "growth1;".repeat(17), 18);
        item("county1;" + "guard0;".repeat(20), 1);
        StringBuilder most = new StringBuilder("county5;");
        for (int a = 0, k = 0; a < 5; a++) {
            for (int b = a + 1; b < 5 && k < 9; b++, k++) most.append("road").append(a).append(' ').append(b).append(";guard").append(k).append(';');
        }
        due("roads and guards", most.length(), 143);
        reads(most.toString(), 19);
        item(most + "guard8;", 19);
    }

    static void p13_by_these_alone() {
        DragonTithe x = reads("county 3;", 1);
        due("digest", x.digest(), digestOf(3, 0, 0, 0, 0, 9, 0, 0, 0, 0, 0, 0, 0, 7, 10));
        due("undo()", x.undo(), NO);
    }

    static void p13_in_their_order() {
        DragonTithe x = reads("county 3;lot 5 0 1;lot 0 1 2;growth 1;growth 8;cloud 1 2;cloud 1 3;road 2 1;road 0 2;guard 1;", 10);
        due("digest", x.digest(), digestOf(3, 2, 2, 0, 0, 93, 8, 0, 3, 0, 5, 0, 1, 0, 1, 2, 2, 1, 0, 0, 2, 1, 0, 0, 0, 7, 10));
    }

    static void p13_the_same_again_is_taken() {
        DragonTithe x = reads("county 3;growth 3;growth 3;cloud 0 0;cloud 0 0;", 5);
        due("count(6)", x.count(6), 3);
    }

    static void p13_text_fraction_images_and_status_stay() {
        DragonTithe x = reads(ALL, 6);
        due("count(5)", x.count(5), 57);
        fraction(x, 7, 10);
        status(x, 1, 1, 1);
        due("from(0)", x.from(0), 1);
        due("LOTS of the IMAGE", x.count(1), 6);
        due("GROWTH of the IMAGE", x.count(6), 3);
    }

    static void p13_again_it_is_the_same() {
        DragonTithe x = reads(ALL, 6);
        long before = x.digest();
        due("read()", x.read(), 6);
        due("digest", x.digest(), before);
    }

    static void p13_a_refused_one_leaves_no_trace_in_the_next() {
        DragonTithe x = rich();
        x.clear();
        type(x, "county 5;lot 0 4 9;cloud 4 9;road 4 3;guard 0;growth 10;");
        due("read()", x.read(), -1005);
        x.clear();
        type(x, "county 5;");
        due("read()", x.read(), 1);
        due("digest", x.digest(), digestOf(5, 0, 0, 0, 0, 9, 0, 0, 0, 0, 0, 0, 0, 0, 0, 7, 10));
    }

    /** On one object: what an earlier TEXT left at any of its TOKENS does not help a later one. */
    static void p13_a_fault_leaves_no_trace_in_the_next() {
        String[] earlier = {"", "county", "county county", "county 3", "county 3;", "county 3;lot 0", "county 3;lot", ";", "3", "#", "x"};
        String[] later = {"", "x", "x 3;", "#", "3", ";", "county", "county x", "county 3", "county x 3;", "county 3;x"};
        int[] faults = {0, 0, 0, 0, 0, 0, 6, 7, 8, 7, 9};
        for (String first : earlier) {
            for (int i = 0; i < later.length; i++) {
                DragonTithe x = text(Edges::fresh, first).make();
                x.read();
                x.clear();
                type(x, later[i]);
                due("read() of '" + later[i] + "' behind '" + first + "'", x.read(), -10 - faults[i]);
            }
        }
    }

    static void p13_counts_nothing_in_status() {
        DragonTithe x = fresh();
        x.read();
        type(x, "county 0;");
        x.read();
        x.type(';');
        x.read();
        status(x, 0, 0, 0);
    }
}
