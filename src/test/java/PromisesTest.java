/** Each promise by itself: ordinary calls, the edges that the document names, wrong ones. */
public final class PromisesTest {
    private static final int MAX = Integer.MAX_VALUE, MIN = Integer.MIN_VALUE;
    private static int wrong = 0;
    private static int promise = 0;

    public static void main(String[] args) {
        promise1(); promise2(); promise3(); promise4(); promise5(); promise6(); promise7(); promise8();
        promise9(); promise10(); promise11(); promise12(); promise13Items(); promise13Faults(); promise13ThirdFigures();
        promise13Refused();
        promise14Kinds(); promise14Two(); promise15(); promise16(); promise17(); promise18(); promise19();
        promise20(); promise21(); promise22(); promise23(); promise24(); promise25(); promise26(); promise27();
        promise28(); promise29(); promise30(); promise31(); promise32(); promise33(); promise34(); promise35();
        promise36(); promise37();
        System.out.println(wrong == 0 ? "PromisesTest: all answers are as due" : wrong + " answers are not as due");
        if (wrong != 0) System.exit(1);
    }

    private static void due(String call, long got, long want) {
        if (got != want) {
            wrong++;
            System.out.println("promise " + promise + ": " + call + " answered " + got + ", due is " + want);
        }
    }

    private static long digestOf(long... row) {
        long h = 853;
        for (long v : row) h = 31 * h + v;
        return h;
    }

    private static void fraction(DragonTithe x, String call, long above, long below) {
        due(call + " part(0)", x.part(0), above);
        due(call + " part(1)", x.part(1), below);
    }

    /** What BAD, NO and FULL have been so far. */
    private static void status(DragonTithe x, int bad, int no, int full) {
        due("status(0)", x.status(0), bad);
        due("status(1)", x.status(1), no);
        due("status(2)", x.status(2), full);
    }

    private static int readText(DragonTithe x, String text) {
        x.clear();
        for (int i = 0; i < text.length(); i++) x.type(text.charAt(i));
        return x.read();
    }

    private static void promise1() {
        promise = 1;
        DragonTithe x = new DragonTithe();
        int[] counts = {3, 0, 0, 0, 0, 0, 0};
        for (int i = 0; i < 7; i++) due("count(" + i + ")", x.count(i), counts[i]);
        fraction(x, "new", 0, 1);
        status(x, 0, 0, 0);
        due("from(0)", x.from(0), DragonTithe.NO);
        due("from(1)", x.from(1), DragonTithe.NO);
        for (int v = 0; v < 3; v++) due("cloud", x.cloud(v, 0), 0);
        for (int i = 0; i < 3; i++) due("told", x.told(i, 0), 0);
        due("digest", x.digest(), digestOf(3, 0, 0, 0, 0, 0, 0, 0, 0, 0, 0, 0, 0, 0, 1));
        due("NONE", DragonTithe.NONE, -1);
        due("BAD", DragonTithe.BAD, -2);
        due("NO", DragonTithe.NO, -3);
        due("FULL", DragonTithe.FULL, -4);
    }

    private static void promise2() {
        promise = 2;
        DragonTithe x = new DragonTithe();
        due("county(5)", x.county(5), 3);
        x.lot(0, 4, 30); x.road(0, 1); x.guard(0, true); x.growth(4); x.cloud(4, 7); x.told(1, 9);
        x.moon(0, false); x.type(';'); x.mean(-1);
        int[] bads = {0, 6, -1, MAX, MIN};
        long before = x.digest();
        for (int bad : bads) due("county(" + bad + ")", x.county(bad), -2);
        due("digest", x.digest(), before);
        status(x, 5, 0, 0);
        due("county(1)", x.county(1), 5);
        due("county(5)", x.county(5), 1);
        due("undo()", x.undo(), -3);
        due("digest", x.digest(), digestOf(5, 0, 0, 0, 0, 1, 0, 0, 0, 0, 0, 0, 0, 0, 0, x.part(0), x.part(1)));
        fraction(x, "county leaves THE FRACTION", 6, 5);
        due("road(0, 1)", x.road(0, 1), 0);
        due("a new road is not guarded", x.guard(0, false), -3);
        x.image(0);
        x.county(2);
        due("county leaves IMAGES", x.from(0), 1);
    }

    private static void promise3() {
        promise = 3;
        DragonTithe x = new DragonTithe();
        int[][] bads = {{-1, 0, 0}, {6, 0, 0}, {0, -1, 0}, {0, 3, 0}, {0, 0, -1}, {0, 0, 100}, {MAX, 0, 0}, {0, MIN, 0}, {0, 0, MAX}};
        for (int[] b : bads) due("lot bad", x.lot(b[0], b[1], b[2]), -2);
        due("count(1)", x.count(1), 0);
        for (int i = 0; i < 10; i++) due("lot", x.lot(i % 6, i % 3, i % 2 == 0 ? 0 : 99), i);
        due("of(9, 0)", x.of(9, 0), 3);
        due("of(9, 1)", x.of(9, 1), 0);
        due("of(9, 2)", x.of(9, 2), 99);
        x.moon(7, false);
        due("lot full", x.lot(0, 0, 0), -4);
        due("bad ahead of full", x.lot(0, 3, 0), -2);
        status(x, bads.length + 1, 0, 1);
        due("a refused lot leaves the moon to be undone", x.count(4), 1);
        x.drop();
        x.moon(7, false);
        due("lot", x.lot(5, 2, 1), 9);
        due("a lot leaves none to be undone", x.count(4), 0);
        due("undo()", x.undo(), -3);
    }

    private static void promise4() {
        promise = 4;
        DragonTithe x = new DragonTithe();
        x.lot(0, 1, 10);
        x.moon(7, false);
        due("move(0, 2)", x.move(0, 2), 1);
        due("move(0, 0)", x.move(0, 0), 2);
        due("of(0, 1)", x.of(0, 1), 0);
        due("move to where it is", x.move(0, 0), 0);
        due("move(1, 0)", x.move(1, 0), -2);
        due("move(-1, 0)", x.move(-1, 0), -2);
        due("move(0, 3)", x.move(0, 3), -2);
        due("move(0, -1)", x.move(0, -1), -2);
        due("of(0, 1)", x.of(0, 1), 0);
        status(x, 4, 0, 0);
        due("undo()", x.undo(), 1);
        due("undo leaves the VILLAGE", x.of(0, 1), 0);
    }

    private static void promise5() {
        promise = 5;
        DragonTithe x = new DragonTithe();
        x.lot(0, 0, 30); x.lot(2, 1, 80); x.lot(5, 1, 0);
        due("drive(0, 1, 19)", x.drive(0, 1, 19), 99);
        due("of(0, 2)", x.of(0, 2), 11);
        due("drive(0, 1, 1): more than 99", x.drive(0, 1, 1), -3);
        due("drive(0, 2, 12): not so many", x.drive(0, 2, 12), -3);
        due("drive(0, 2, MAX)", x.drive(0, 2, MAX), -3);
        due("drive(0, 2, 11)", x.drive(0, 2, 11), 11);
        due("drive(0, 2, 0)", x.drive(0, 2, 0), 11);
        due("count(4)", x.count(4), 3);
        due("drive(1, 1, 0)", x.drive(1, 1, 0), -2);
        due("drive(0, 1, -1)", x.drive(0, 1, -1), -2);
        due("drive(3, 1, 0)", x.drive(3, 1, 0), -2);
        due("drive(1, 3, 0)", x.drive(1, 3, 0), -2);
        due("drive(-1, 1, 0)", x.drive(-1, 1, 0), -2);
        due("drive(1, -1, 0)", x.drive(1, -1, 0), -2);
        due("bad ahead of no", x.drive(0, 0, 99), -2);
        status(x, 7, 3, 0);
        due("count(4)", x.count(4), 3);
        x.undo(); x.undo(); x.undo();
        due("of(0, 2)", x.of(0, 2), 30);
        due("of(1, 2)", x.of(1, 2), 80);
        due("count(3)", x.count(3), 0);
    }

    private static void promise6() {
        promise = 6;
        DragonTithe x = new DragonTithe();
        due("drop()", x.drop(), -3);
        x.lot(0, 0, 5); x.lot(1, 1, 6);
        x.moon(0, false);
        due("drop()", x.drop(), 1);
        due("undo()", x.undo(), -3);
        due("of(1, 0)", x.of(1, 0), -2);
        due("of(0, 0)", x.of(0, 0), 0);
        due("drop()", x.drop(), 0);
        x.moon(0, false);
        due("drop()", x.drop(), -3);
        due("a refused drop leaves the moon to be undone", x.count(4), 1);
        status(x, 1, 3, 0);
    }

    private static void promise7() {
        promise = 7;
        DragonTithe x = new DragonTithe();
        due("growth(9)", x.growth(9), 0);
        due("growth(10)", x.growth(10), -2);
        due("growth(-1)", x.growth(-1), -2);
        due("growth(0)", x.growth(0), 9);
        due("growth(4)", x.growth(4), 0);
        due("count(6)", x.count(6), 4);
        status(x, 2, 0, 0);
        for (int kind = 0; kind < 6; kind++) x.lot(kind, 0, 97);
        x.moon(1, false);
        int[] heads = {99, 99, 97, 99, 99, 97};
        for (int i = 0; i < 6; i++) due("of(" + i + ", 2)", x.of(i, 2), heads[i]);
        x.county(3); x.growth(9);
        for (int kind = 0; kind < 6; kind++) x.lot(kind, 0, 0);
        x.moon(1, false);
        for (int i = 0; i < 6; i++) due("no heads, no growth", x.of(i, 2), 0);
        x.county(1); x.growth(9); x.lot(0, 0, 1);
        due("moon(0)", x.moon(0, false), 1);
        due("it had heads, but they were taken", x.of(0, 2), 0);
        x.county(1); x.growth(9); x.lot(4, 0, 1);
        x.moon(0, false);
        due("one head grows", x.of(0, 2), 10);
    }

    private static void promise8() {
        promise = 8;
        DragonTithe x = new DragonTithe();
        due("cloud(2, 10)", x.cloud(2, 10), 0);
        due("cloud(2, 11)", x.cloud(2, 11), -2);
        due("cloud(2, -1)", x.cloud(2, -1), -2);
        due("cloud(3, 1)", x.cloud(3, 1), -2);
        due("cloud(-1, 1)", x.cloud(-1, 1), -2);
        due("cloud(2, 0)", x.cloud(2, 0), 10);
        due("cloud(0, 4)", x.cloud(0, 4), 0);
        due("cloud(1, 0)", x.cloud(1, 0), 0);
        status(x, 4, 0, 0);
    }

    private static void promise9() {
        promise = 9;
        DragonTithe x = new DragonTithe();
        due("road(0, 2)", x.road(0, 2), 0);
        due("road(2, 0)", x.road(2, 0), -3);
        due("road(0, 2)", x.road(0, 2), -3);
        due("road(1, 1)", x.road(1, 1), -2);
        due("road(0, 3)", x.road(0, 3), -2);
        due("road(-1, 0)", x.road(-1, 0), -2);
        due("road(3, 3)", x.road(3, 3), -2);
        due("road(2, 1)", x.road(2, 1), 1);
        status(x, 4, 2, 0);
        x.county(5);
        int number = 0;
        for (int a = 0; a < 5; a++) for (int b = a + 1; b < 5; b++) due("road", x.road(b, a), number++);
        due("count(2)", x.count(2), 10);
        due("road(4, 3)", x.road(4, 3), -3);
    }

    private static void promise10() {
        promise = 10;
        DragonTithe x = new DragonTithe();
        due("guard(0, true)", x.guard(0, true), -2);
        x.road(0, 1); x.road(1, 2);
        due("guard(0, false)", x.guard(0, false), -3);
        due("guard(1, true)", x.guard(1, true), 1);
        due("guard(1, true)", x.guard(1, true), -3);
        due("guard(0, false)", x.guard(0, false), -3);
        due("guard(2, true)", x.guard(2, true), -2);
        due("guard(-1, true)", x.guard(-1, true), -2);
        due("guard(1, false)", x.guard(1, false), 1);
        status(x, 3, 3, 0);
        due("digest", x.digest(), digestOf(3, 0, 2, 0, 0, 0, 0, 0, 0, 0, 0, 1, 0, 1, 2, 0, 0, 0, 0, 0, 1));
        x.guard(0, true);
        due("digest", x.digest(), digestOf(3, 0, 2, 0, 0, 0, 0, 0, 0, 0, 0, 1, 1, 1, 2, 0, 0, 0, 0, 0, 1));
    }

    private static void promise11() {
        promise = 11;
        DragonTithe x = new DragonTithe();
        due("type(-1)", x.type(-1), -2);
        due("type(128)", x.type(128), -2);
        for (int i = 1; i <= 150; i++) due("type", x.type(i % 128), i);
        due("type(0)", x.type(0), -4);
        due("type(128)", x.type(128), -2);
        due("count(5)", x.count(5), 150);
        status(x, 3, 0, 1);
    }

    private static void promise12() {
        promise = 12;
        DragonTithe x = new DragonTithe();
        due("clear()", x.clear(), 0);
        x.type(0); x.type(127);
        due("clear()", x.clear(), 2);
        due("count(5)", x.count(5), 0);
        due("type(32)", x.type(32), 1);
        status(x, 0, 0, 0);
    }

    private static void promise13Items() {
        promise = 13;
        DragonTithe x = new DragonTithe();
        x.lot(0, 0, 9); x.road(0, 2); x.growth(7); x.cloud(0, 3); x.told(2, 5); x.moon(0, false);
        due("read", readText(x, "county 4;lot 5 3 99;growth 2;cloud 3 10;road 3 1;guard 0;"), 6);
        due("digest", x.digest(), digestOf(4, 1, 1, 0, 0, 57, 2, 0, 0, 0, 10, 5, 3, 99, 3, 1, 1, 0, 0, 0, 0, 1));
        due("read again", x.read(), 6);
        due("blanks are free", readText(x, "  county05 ;  lot0 1 07;;".substring(0, 24)), 2);
        due("count(0)", x.count(0), 5);
        due("of(0, 2)", x.of(0, 2), 7);
        due("blanks at the end", readText(x, "county 1;  "), 1);
        due("twice", readText(x, "county 2;growth 1;growth 8;cloud 1 2;cloud 1 3;"), 5);
        due("count(6)", x.count(6), 8);
        due("cloud(1, 0)", x.cloud(1, 0), 3);
        StringBuilder most = new StringBuilder("county1;");
        for (int i = 0; i < 17; i++) most.append("growth").append(i % 10).append(';');
        due("as many as fit", readText(x, most.toString()), 18);
        status(x, 0, 0, 0);
    }

    /** Each on an object of its own, as one is used for 512 calls at most; nothing changes, nothing counts as refused. */
    private static void faultsAreDue(String[] texts, int[] faults) {
        for (int i = 0; i < texts.length; i++) {
            DragonTithe x = new DragonTithe();
            x.lot(0, 0, 9); x.moon(0, false);
            long before = x.digest();
            due("read of '" + texts[i] + "'", readText(x, texts[i]), -10 - faults[i]);
            x.clear();
            due("digest", x.digest(), before);
            status(x, 0, 0, 0);
        }
    }

    private static void promise13Faults() {
        promise = 13;
        faultsAreDue(new String[] {"", "   ", ";", " lot 0 0 1;", "county", "county ", "county 3", "county ;", "county 3;;", "county 3 ; x;",
            "county 3;county 3;", "county 300;", "county 3;lot 0 0 100;", "county 3;lot 100 0 1;", "county 3;lot 0 0;", "county 3;lot 0 0 1 1;",
            "county 3;lots 0 0 1;", "county 3;lot 0 0 1", "county 3;lot", "county 3;lo", "County 3;", "county 3;growth -1;",
            "county 3;growth 1,", "county 3;\t", "county county;", "3;", "county 3;growth x;", "county 3;road 0 growth;", "county 9;x"},
            new int[] {0, 3, 0, 1, 6, 7, 8, 7, 9, 11,
            9, 7, 17, 13, 16, 19,
            9, 18, 12, 9, 0, 16,
            17, 9, 7, 0, 16, 16, 9});
        for (int c = 0; c < 128; c++) faultsAreDue(new String[] {" " + (char) c}, new int[] {c == 32 ? 2 : 1});
    }

    /** A number of three or more figures is one TOKEN that can stand nowhere: the FAULT is its first figure. */
    private static void promise13ThirdFigures() {
        promise = 13;
        StringBuilder figures = new StringBuilder("county ");
        for (int i = 7; i < 150; i++) figures.append(i % 10);
        faultsAreDue(new String[] {"county100", "county100;", "county 003;", "county 3;lot 0100 5;", "county 3;lot 010 5;", "county 3;lot 0 0 001;",
            "county 3;lot 0 0 12 345;", "county 3;growth 1234567890123456789012345;", "county 3;cloud 1000;", "county 3;cloud 0 100",
            "county 3;road 001;", "county 3;guard000;", "county 3;123;", "123;", "county 3 456;", "county 3;lot 00 00 00;growth 000;",
            "county 9;lot 0 0 100;", "county 12x", "county 123x", figures.toString()},
            new int[] {6, 6, 7, 13, 13, 17,
            20, 16, 15, 17,
            14, 14, 9, 0, 9, 29,
            17, 9, 7, 7});
        DragonTithe x = new DragonTithe();
        due("two figures, then two", readText(x, "county 03;lot 00 01 99;growth 09;cloud 02 10;road 00 02;guard 00;"), 6);
        status(x, 0, 0, 0);
    }

    private static void promise13Refused() {
        promise = 13;
        DragonTithe x = new DragonTithe();
        x.lot(0, 0, 9); x.moon(0, false);
        long before = x.digest();
        String[] texts = {"county 0;", "county 6;", "county 99;lot 9 9 9;", "county 3;lot 6 0 0;", "county 3;growth 3;lot 0 3 0;",
            "county 3;growth 10;", "county 3;cloud 3 0;", "county 3;cloud 0 11;", "county 3;road 0 0;", "county 3;road 0 3;",
            "county 3;road 0 1;road 1 0;", "county 3;guard 0;", "county 3;road 0 1;guard 0;guard 0;growth 1;"};
        int[] items = {0, 0, 0, 1, 2, 1, 1, 1, 1, 1, 2, 1, 3};
        for (int i = 0; i < texts.length; i++) {
            due("read of '" + texts[i] + "'", readText(x, texts[i]), -1000 - items[i]);
            x.clear();
            due("digest", x.digest(), before);
        }
        StringBuilder eleven = new StringBuilder("county 1;");
        for (int i = 0; i < 11; i++) eleven.append("lot 0 0 ").append(i).append(';');
        due("the eleventh lot", readText(x, eleven.toString()), -1011);
        due("a fault goes ahead of a refusal", readText(x, "county 0;lot"), -22);
        status(x, 0, 0, 0);
        due("undo()", x.undo(), 1);
    }

    private static void promise14Kinds() {
        promise = 14;
        DragonTithe x = new DragonTithe();
        x.county(1); x.growth(2);
        int[] heads = {41, 41, 41, 41, 41, 41};
        for (int kind = 0; kind < 6; kind++) x.lot(kind, 0, heads[kind]);
        due("moon(0)", x.moon(0, false), 5 + 5 + 0 + 5 + 2 + 1);
        int[] after = {38, 38, 41, 38, 41, 40};
        for (int i = 0; i < 6; i++) due("of(" + i + ", 2)", x.of(i, 2), after[i]);
        due("count(3)", x.count(3), 1);
        due("moon(1): hidden", x.moon(1, false), 0);
        due("of(0, 2)", x.of(0, 2), 40);
        due("count(3)", x.count(3), 2);
        long before = x.digest();
        due("moon(2)", x.moon(2, false), -2);
        due("moon(-1)", x.moon(-1, false), -2);
        due("moon(MAX)", x.moon(MAX, true), -2);
        due("digest", x.digest(), before);
        status(x, 3, 0, 0);
        x.county(2); x.lot(3, 0, 50); x.lot(0, 1, 9);
        due("LENT is seen in an even moon", x.moon(0, false), 5);
        due("but not in an odd one", x.moon(0, false), 1);
        due("again in an even one", x.moon(0, false), 5);
        x.county(2); x.lot(1, 0, 1);
        due("all SIGHTS are 0", x.moon(0, true), 0);
    }

    private static void promise14Two() {
        promise = 14;
        DragonTithe x = new DragonTithe();
        x.growth(9); x.lot(0, 2, 50); x.lot(0, 0, 30); x.lot(0, 1, 30);
        due("moon(0, true)", x.moon(0, true), 8);
        due("of(0, 2)", x.of(0, 2), 54);
        due("of like ones the least", x.of(1, 2), 36);
        due("of(2, 2)", x.of(2, 2), 39);
        due("moon(4, true)", x.moon(4, true), 8);
        due("moon(6, true): one is seen", x.moon(6, true), 5);
        due("moon(7, true): none is seen", x.moon(7, true), 0);
        x.county(2); x.lot(0, 0, 50);
        due("no other one has any", x.moon(0, true), 5);
        x.county(2); x.lot(0, 0, 12); x.lot(5, 1, 1); x.lot(2, 1, 0); x.lot(0, 1, 1);
        due("SIGHTS as they were", x.moon(0, true), 2 + 1 + 1);
    }

    private static void promise15() {
        promise = 15;
        DragonTithe x = new DragonTithe();
        due("undo()", x.undo(), -3);
        x.lot(0, 0, 99); x.lot(0, 1, 0);
        for (int i = 0; i < 12; i++) x.drive(0, 1, 1);
        due("count(4)", x.count(4), 10);
        for (int i = 0; i < 10; i++) due("undo()", x.undo(), 1);
        due("of(1, 2)", x.of(1, 2), 2);
        due("undo()", x.undo(), -3);
        x.growth(3);
        x.moon(0, false); x.moon(0, true);
        due("count(3)", x.count(3), 2);
        due("undo()", x.undo(), 1);
        due("count(3)", x.count(3), 1);
        x.growth(5); x.cloud(1, 4);
        due("undo()", x.undo(), 1);
        due("count(3)", x.count(3), 0);
        due("of(0, 2)", x.of(0, 2), 97);
        due("GROWTH stays", x.count(6), 5);
        due("ODDS stay", x.cloud(1, 4), 4);
        status(x, 0, 2, 0);
        for (int i = 0; i < 12; i++) x.moon(0, false);
        for (int i = 11; i >= 2; i--) {
            due("undo()", x.undo(), 1);
            due("count(3)", x.count(3), i);
        }
        due("undo()", x.undo(), -3);
    }

    private static void promise16() {
        promise = 16;
        DragonTithe x = new DragonTithe();
        int[] heads = {0, 1, 3, 10, 11, 20, 55, 99};
        int[][] seen = {{0, 1, 3, 10, 11, 20, 55, 99}, {0, 0, 1, 5, 5, 10, 27, 49}, {10, 11, 13, 20, 21, 30, 65, 109},
            {0, 1, 3, 10, 11, 20, 55, 99}, {0, 0, 0, 2, 2, 5, 13, 24}, {20, 22, 26, 40, 42, 60, 130, 218}};
        int[][] taken = {{0, 1, 1, 1, 2, 2, 6, 10}, {0, 1, 1, 1, 2, 2, 6, 10}, {0, 0, 0, 0, 0, 0, 0, 0},
            {0, 1, 1, 1, 2, 2, 6, 10}, {0, 0, 0, 0, 1, 1, 3, 5}, {0, 1, 1, 1, 1, 1, 1, 1}};
        for (int kind = 0; kind < 6; kind++) {
            for (int i = 0; i < heads.length; i++) {
                due("lot", x.lot(kind, kind % 3, heads[i]), 0);
                String which = "kind " + kind + ", heads " + heads[i];
                due(which + " of(0, 0)", x.of(0, 0), kind);
                due(which + " of(0, 1)", x.of(0, 1), kind % 3);
                due(which + " of(0, 2)", x.of(0, 2), heads[i]);
                due(which + " of(0, 3)", x.of(0, 3), seen[kind][i]);
                due(which + " of(0, 4)", x.of(0, 4), taken[kind][i]);
                x.drop();
            }
        }
        x.lot(3, 0, 41);
        x.moon(7, false);
        due("LENT in an odd moon", x.of(0, 3), 0);
        due("LENT in an odd moon", x.of(0, 4), 5);
        due("of(0, 5)", x.of(0, 5), -2);
        due("of(0, -1)", x.of(0, -1), -2);
        due("of(1, 0)", x.of(1, 0), -2);
        due("of(-1, 0)", x.of(-1, 0), -2);
        status(x, 4, 0, 0);
    }

    private static void promise17() {
        promise = 17;
        DragonTithe x = new DragonTithe();
        x.lot(0, 2, 30); x.lot(5, 2, 3); x.lot(4, 2, 55); x.lot(2, 0, 7);
        x.cloud(2, 10);
        due("village(2, 0)", x.village(2, 0), 30 + 26 + 13);
        due("village(2, 1)", x.village(2, 1), 88);
        due("village(0, 0)", x.village(0, 0), 17);
        due("village(0, 1)", x.village(0, 1), 7);
        due("village(1, 0)", x.village(1, 0), 0);
        due("village(3, 0)", x.village(3, 0), -2);
        due("village(-1, 0)", x.village(-1, 0), -2);
        due("village(0, 2)", x.village(0, 2), -2);
        due("village(0, -1)", x.village(0, -1), -2);
        status(x, 4, 0, 0);
    }

    private static void promise18() {
        promise = 18;
        DragonTithe x = new DragonTithe();
        due("greatest(0)", x.greatest(0), -1);
        x.lot(0, 1, 20); x.lot(2, 2, 10); x.lot(1, 0, 39);
        due("greatest(0): of like ones the least", x.greatest(0), 1);
        due("greatest(2)", x.greatest(2), 2);
        due("greatest(6)", x.greatest(6), 0);
        due("greatest(7)", x.greatest(7), -1);
        due("greatest(8)", x.greatest(8), -10);
        due("greatest(-1)", x.greatest(-1), -10);
        status(x, 2, 0, 0);
    }

    private static void promise19() {
        promise = 19;
        DragonTithe x = new DragonTithe();
        x.county(2);
        x.lot(0, 0, 30); x.lot(0, 0, 10); x.lot(0, 1, 39);
        // Now 0 is seen with 40, and 4 are taken; no one move takes fewer than 1.
        due("least(0, 0, 0)", x.least(0, 0, 0), 4);
        due("least(0, 0, 1)", x.least(0, 0, 1), -1);
        due("least(0, 1, 0)", x.least(0, 1, 0), 4);
        due("of like ones fewer moves", x.least(0, 1, 1), -1);
        due("least(2, 1, 0): lot 0 goes under the cloud", x.least(2, 1, 0), 1);
        due("least(2, 1, 1)", x.least(2, 1, 1), 1);
        due("least(2, 1, 2)", x.least(2, 1, 2), -1);
        due("least(2, 2, 0)", x.least(2, 2, 0), 0);
        due("least(2, 2, 1)", x.least(2, 2, 1), 1);
        due("least(2, 2, 2)", x.least(2, 2, 2), 11);
        due("least(3, 2, 0)", x.least(3, 2, 0), 0);
        due("least(3, 2, 1)", x.least(3, 2, 1), -1);
        due("of(0, 1): nothing has changed", x.of(0, 1), 0);
        int[][] bads = {{4, 0, 0}, {-1, 0, 0}, {0, 3, 0}, {0, -1, 0}, {0, 0, 3}, {0, 0, -1}};
        for (int[] b : bads) due("least bad", x.least(b[0], b[1], b[2]), -10);
        status(x, 6, 0, 0);
        x.county(3); x.lot(2, 0, 0); x.lot(2, 0, 0); x.lot(0, 1, 40);
        due("a decoy's village: the first move", x.least(0, 1, 0), 4);
        x.lot(2, 0, 50);
        due("nothing is taken of what is painted", x.least(0, 2, 0), 0);
        due("no move is needed", x.least(0, 2, 1), -1);
        leastOfThree();
    }

    private static void leastOfThree() {
        DragonTithe x = new DragonTithe();
        x.lot(0, 0, 50); x.lot(0, 0, 50); x.lot(2, 1, 20); x.lot(2, 2, 30);
        due("0 moves", x.least(0, 0, 0), 10);
        due("1 move: half of it goes", x.least(0, 1, 0), 5);
        due("1 move: the first such one", x.least(0, 1, 1), 1);
        // Living ones apart, 50 and 50; painted ones together, 70.
        due("2 moves", x.least(0, 2, 0), 0);
        due("2 moves", x.least(0, 2, 1), 1);
        due("2 moves", x.least(0, 2, 2), 22);
        due("1 move again", x.least(0, 1, 2), -1);
        x.move(0, 2); x.move(3, 0); x.move(2, 0);
        // 0 has 50 living and 70 painted, 2 has 50 living.
        due("a living one away from the painted ones", x.least(0, 1, 0), 0);
        due("a living one away from the painted ones", x.least(0, 1, 1), 11);
    }

    private static void promise20() {
        promise = 20;
        DragonTithe x = new DragonTithe();
        x.lot(0, 0, 30); x.lot(0, 1, 20); x.lot(0, 2, 10);
        x.cloud(0, 3); x.cloud(1, 5); x.cloud(2, 10);
        due("chance(0)", x.chance(0), 1);
        fraction(x, "chance(0)", 7, 10);
        due("chance(1)", x.chance(1), 1);
        fraction(x, "chance(1)", 3, 20);
        due("chance(2)", x.chance(2), 1);
        fraction(x, "chance(2)", 0, 1);
        x.cloud(2, 9);
        x.chance(2);
        fraction(x, "chance(2)", 3, 200);
        due("chance(3)", x.chance(3), -2);
        due("chance(-1)", x.chance(-1), -2);
        fraction(x, "refused", 3, 200);
        status(x, 2, 0, 0);
    }

    private static void promise21() {
        promise = 21;
        DragonTithe x = new DragonTithe();
        x.lot(0, 0, 30); x.lot(0, 1, 20); x.lot(0, 2, 10);
        x.cloud(0, 3); x.cloud(1, 5); x.cloud(2, 9);
        due("mean(0)", x.mean(0), 1);
        fraction(x, "mean(0)", 21, 10);
        x.mean(1);
        fraction(x, "mean(1)", 3, 10);
        x.mean(2);
        fraction(x, "mean(2)", 3, 200);
        due("mean(-1)", x.mean(-1), 1);
        fraction(x, "mean(-1)", 483, 200);
        due("mean(3)", x.mean(3), -2);
        due("mean(-2)", x.mean(-2), -2);
        fraction(x, "refused", 483, 200);
        status(x, 2, 0, 0);
        due("nothing else has changed", x.of(0, 2), 30);
    }

    private static void promise22() {
        promise = 22;
        DragonTithe x = new DragonTithe();
        x.lot(0, 2, 30); x.lot(0, 0, 5);
        x.mean(2);
        due("painting(2, 20): 0 is as great then, and lesser", x.painting(2, 20), 0);
        due("painting(2, 15)", x.painting(2, 15), 0);
        due("painting(2, 14): too little", x.painting(2, 14), -1);
        due("painting(0, 99): it loses nothing now", x.painting(0, 99), -1);
        x.cloud(0, 5);
        due("painting(2, 99): the clear one", x.painting(2, 99), 1);
        x.cloud(2, 10);
        due("painting(2, 99): hidden", x.painting(2, 99), -1);
        fraction(x, "painting leaves THE FRACTION", 3, 1);
        due("painting(3, 0)", x.painting(3, 0), -2);
        due("painting(-1, 0)", x.painting(-1, 0), -2);
        due("painting(0, 100)", x.painting(0, 100), -2);
        due("painting(0, -1)", x.painting(0, -1), -2);
        status(x, 4, 0, 0);
        x.county(2); x.lot(0, 1, 8);
        for (int i = 1; i < 10; i++) x.lot(1, 1, 0);
        due("with ten LOTS, too", x.painting(1, 0), 0);
        due("count(1)", x.count(1), 10);
    }

    private static void promise23() {
        promise = 23;
        DragonTithe x = new DragonTithe();
        x.county(5);
        x.road(0, 1); x.road(2, 1); x.road(2, 3); x.road(4, 3);
        due("unseen(0, 4)", x.unseen(0, 4), 4);
        due("unseen(4, 0)", x.unseen(4, 0), 4);
        due("unseen(1, 2)", x.unseen(1, 2), 1);
        x.road(1, 3);
        due("unseen(0, 4)", x.unseen(0, 4), 3);
        x.guard(4, true);
        due("unseen(0, 4)", x.unseen(0, 4), 4);
        x.guard(1, true);
        due("unseen(0, 4)", x.unseen(0, 4), -1);
        due("unseen(0, 0)", x.unseen(0, 0), -2);
        due("unseen(0, 5)", x.unseen(0, 5), -2);
        due("unseen(-1, 0)", x.unseen(-1, 0), -2);
        status(x, 3, 0, 0);
    }

    private static void promise24() {
        promise = 24;
        DragonTithe x = new DragonTithe();
        x.county(5);
        due("cut(0, 1, 0)", x.cut(0, 1, 0), 0);
        due("cut(0, 1, 1)", x.cut(0, 1, 1), 1);
        x.road(0, 1);
        due("no way, but a side", x.cut(0, 2, 0), 0);
        due("no way, but a side", x.cut(0, 2, 1), 3);
        x.road(1, 2); x.road(2, 3);
        due("cut(0, 3, 0)", x.cut(0, 3, 0), 1);
        due("of like ones the least", x.cut(0, 3, 1), 1);
        due("from the other side", x.cut(3, 0, 1), 8 + 4 + 2);
        x.road(0, 3);
        due("two", x.cut(0, 3, 0), 2);
        due("the least bits: roads 0 and 3", x.cut(0, 3, 1), 1);
        x.guard(3, true);
        due("one with the guard", x.cut(0, 3, 0), 1);
        x.road(0, 4);
        due("what hangs on the first one", x.cut(0, 3, 1), 1 + 16);
        x.county(5);
        for (int a = 0; a < 5; a++) for (int b = a + 1; b < 5; b++) x.road(a, b);
        due("all roads", x.cut(0, 4, 0), 4);
        due("all roads", x.cut(0, 4, 1), 1);
        due("all roads", x.cut(4, 0, 1), 30);
        int[][] bads = {{0, 0, 0}, {0, 5, 0}, {-1, 0, 0}, {0, 1, 2}, {0, 1, -1}};
        for (int[] b : bads) due("cut bad", x.cut(b[0], b[1], b[2]), -2);
        status(x, 5, 0, 0);
    }

    private static void promise25() {
        promise = 25;
        DragonTithe x = new DragonTithe();
        due("like ones never rest", x.game(0, 1, 0), 0);
        due("like ones never rest", x.game(0, 1, 1), -1);
        x.lot(0, 2, 60); x.lot(0, 1, 4);
        // 2 is taken from whatever is chosen: then x by 4 must be 0 for both.
        due("game(0, 2, 0)", x.game(0, 2, 0), 16);
        due("game(0, 2, 1)", x.game(0, 2, 1), 0);
        due("game(2, 0, 0)", x.game(2, 0, 0), 16);
        // 1 is 4 more seen than 0: it comes below 0 only by 9, which costs 2.
        due("game(0, 1, 0)", x.game(0, 1, 0), rest(0, 4, true, 0));
        due("game(0, 1, 1)", x.game(0, 1, 1), rest(0, 4, true, 1));
        due("game(1, 0, 0)", x.game(1, 0, 0), rest(4, 0, false, 0));
        due("game(1, 0, 1)", x.game(1, 0, 1), rest(4, 0, false, 1));
        int[][] bads = {{0, 0, 0}, {0, 3, 0}, {-1, 0, 0}, {0, 1, 2}, {0, 1, -1}};
        for (int[] b : bads) due("game bad", x.game(b[0], b[1], b[2]), -10);
        status(x, 5, 0, 0);
    }

    /** Counts the pairs that rest by best answers, not pair by pair as the class does. */
    private static int rest(int sightA, int sightB, boolean aLesser, int what) {
        int many = 0, first = -1;
        for (int p = 0; p < 100; p++) {
            int a = p / 10, b = p % 10, bestA = 99, bestB = 99;
            for (int z = 0; z < 10; z++) {
                bestA = Math.min(bestA, z / 4 + (hitsA(sightA, z, sightB, b, aLesser) ? 5 : 0));
                bestB = Math.min(bestB, z / 4 + (hitsA(sightA, a, sightB, z, aLesser) ? 0 : 5));
            }
            boolean hit = hitsA(sightA, a, sightB, b, aLesser);
            if (a / 4 + (hit ? 5 : 0) == bestA && b / 4 + (hit ? 0 : 5) == bestB) {
                if (many == 0) first = p;
                many++;
            }
        }
        return what == 0 ? many : first;
    }

    private static boolean hitsA(int sightA, int a, int sightB, int b, boolean aLesser) {
        int seenA = sightA + 10 - a + a / 2, seenB = sightB + 10 - b + b / 2;
        return seenA > seenB || seenA == seenB && aLesser;
    }

    private static void promise26() {
        promise = 26;
        DragonTithe x = new DragonTithe();
        x.lot(0, 0, 30); x.lot(0, 0, 21); x.lot(5, 1, 20); x.lot(0, 2, 1);
        x.cloud(0, 10);
        due("league(0)", x.league(0), 0);
        due("league(1)", x.league(1), 6);
        due("league(2)", x.league(2), 1);
        due("league(3)", x.league(3), 1);
        due("league(4)", x.league(4), 1);
        due("league(5)", x.league(5), 6);
        due("league(7)", x.league(7), 1);
        due("league(8)", x.league(8), -2);
        due("league(-1)", x.league(-1), -2);
        status(x, 2, 0, 0);
    }

    private static void promise27() {
        promise = 27;
        DragonTithe x = new DragonTithe();
        x.lot(0, 0, 30); x.lot(0, 0, 21); x.lot(5, 1, 20); x.lot(0, 2, 1);
        // v: {} 0, {0} 6, {1} 1, {2} 1, {0,1} 1, {0,2} 6, {1,2} 1, {0,1,2} 1
        // 0: 2 orders ahead of all 6; behind {1} 0; behind {2} 5; behind both 2 orders 0: (12 + 0 + 5 + 0) by 6
        due("share(0)", x.share(0), 1);
        fraction(x, "share(0)", 17, 6);
        // 1: 2 * 1; behind {0} -5; behind {2} 0; behind both 2 * -5: -13 by 6
        x.share(1);
        fraction(x, "share(1)", -13, 6);
        // 2: 2 * 1; behind {0} 0; behind {1} 0; behind both 0: 2 by 6
        x.share(2);
        fraction(x, "share(2)", 1, 3);
        due("share(3)", x.share(3), -2);
        due("share(-1)", x.share(-1), -2);
        fraction(x, "refused", 1, 3);
        status(x, 2, 0, 0);
        x.county(5);
        x.share(4);
        fraction(x, "nothing is taken", 0, 1);
        x.county(1); x.lot(0, 0, 99);
        x.share(0);
        fraction(x, "one village", 10, 1);
        x.county(5);
        for (int v = 0; v < 5; v++) x.lot(0, v, 10 * (v + 1));
        // v of some is the most of 1 .. 5 among them: each step is shared by those that reach it.
        long[][] shares = {{1, 5}, {9, 20}, {47, 60}, {77, 60}, {137, 60}};
        for (int v = 0; v < 5; v++) {
            x.share(v);
            fraction(x, "share(" + v + ") of five", shares[v][0], shares[v][1]);
        }
    }

    private static void promise28() {
        promise = 28;
        DragonTithe x = new DragonTithe();
        x.county(1); x.lot(0, 0, 50);
        due("pays(0, 0)", x.pays(0, 0), 0);
        due("pays(0, 1)", x.pays(0, 1), 5);
        due("pays(0, 40)", x.pays(0, 40), 5);
        x.lot(4, 0, 40);
        due("both grow, 5 and 2 are taken", x.pays(0, 1), 4);
        x.drop(); x.drop(); x.lot(0, 0, 90);
        due("as much as may be", x.pays(0, 1), 9);
        x.drop(); x.lot(0, 0, 91);
        due("99 at most", x.pays(0, 1), -1);
        x.drop(); x.lot(0, 0, 50);
        x.lot(0, 0, 99);
        due("pays(0, 1): 15 are taken, 10 grow at most on one", x.pays(0, 1), 8);
        x.drop();
        x.lot(5, 0, 1);
        due("the decoy's one is lost, 6 on the other", x.pays(0, 1), 6);
        x.drop(); x.drop(); x.lot(5, 0, 9);
        due("pays(0, 1): a decoy grows by nothing", x.pays(0, 1), -1);
        due("count(6)", x.count(6), 0);
        due("of(0, 2)", x.of(0, 2), 9);
        due("count(3)", x.count(3), 0);
        due("pays(1, 0)", x.pays(1, 0), -2);
        due("pays(-1, 0)", x.pays(-1, 0), -2);
        due("pays(0, 41)", x.pays(0, 41), -2);
        due("pays(0, -1)", x.pays(0, -1), -2);
        status(x, 4, 0, 0);
    }

    private static void promise29() {
        promise = 29;
        DragonTithe x = new DragonTithe();
        due("told(0, 999)", x.told(0, 999), 0);
        due("told(2, 5)", x.told(2, 5), 0);
        due("told(0, 1000)", x.told(0, 1000), -2);
        due("told(0, -1)", x.told(0, -1), -2);
        due("told(3, 0)", x.told(3, 0), -2);
        due("told(-1, 0)", x.told(-1, 0), -2);
        due("told(0, 0)", x.told(0, 0), 999);
        due("told(1, 0)", x.told(1, 0), 0);
        due("told(2, 0)", x.told(2, 0), 5);
        status(x, 4, 0, 0);
    }

    private static void promise30() {
        promise = 30;
        DragonTithe x = new DragonTithe();
        x.county(2);
        due("fit(3, 0): all", x.fit(3, 0), 64);
        due("fit(3, 1): all", x.fit(3, 1), 0);
        x.lot(0, 0, 20); x.lot(0, 1, 10);
        // 2 is taken of village 0 by clouds 0, 2; then it has 18: 2 again; 1 of village 1 by clouds 1.
        x.told(0, 2); x.told(1, 1); x.told(2, 0);
        due("fit(1, 0)", x.fit(1, 0), 2);
        due("fit(1, 1)", x.fit(1, 1), 0);
        due("fit(2, 0)", x.fit(2, 0), 2);
        due("fit(2, 1)", x.fit(2, 1), 1);
        due("fit(3, 0)", x.fit(3, 0), 2);
        due("fit(3, 1)", x.fit(3, 1), 0 * 1024 + 1 * 32 + 3);
        x.told(0, 1); x.told(1, 0); x.told(2, 2);
        due("fit(3, 0)", x.fit(3, 0), 2);
        due("fit(3, 1)", x.fit(3, 1), 1 * 1024 + 3 * 32 + 0);
        x.told(0, 3);
        due("fit(1, 0)", x.fit(1, 0), 0);
        due("fit(1, 1)", x.fit(1, 1), -1);
        due("of(0, 2)", x.of(0, 2), 20);
        due("count(3)", x.count(3), 0);
        x.county(5); x.told(0, 0);
        due("fit(3, 0): all of five", x.fit(3, 0), 32768);
        int[][] bads = {{0, 0}, {4, 0}, {1, 2}, {1, -1}, {MIN, 0}};
        for (int[] b : bads) due("fit bad", x.fit(b[0], b[1]), -10);
        status(x, 5, 0, 0);
    }

    private static void promise31() {
        promise = 31;
        DragonTithe x = new DragonTithe();
        x.county(1); x.lot(0, 0, 99);
        due("drawn(0, 0)", x.drawn(0, 0), 0);
        due("drawn(1, 0): never hidden", x.drawn(1, 0), 10);
        due("drawn(3, 999999)", x.drawn(3, 999999), 10 + 9 + 8);
        x.cloud(0, 10);
        due("drawn(60, 5): always hidden", x.drawn(60, 5), 0);
        // SEED 0: X is 12345, by 65536 it is 0: hidden from c = 1 on.
        x.cloud(0, 1);
        due("drawn(1, 0)", x.drawn(1, 0), 0);
        // SEED 1: X is 1103527590, by 65536 16838, 8 left over: hidden from c = 9 on.
        due("drawn(1, 1)", x.drawn(1, 1), 10);
        x.cloud(0, 8);
        due("drawn(1, 1)", x.drawn(1, 1), 10);
        x.cloud(0, 9);
        due("drawn(1, 1)", x.drawn(1, 1), 0);
        // SEED 3: X is 1163074432, by 65536 17747: 7 left over.
        x.cloud(0, 7);
        due("drawn(1, 3)", x.drawn(1, 3), 10);
        x.cloud(0, 8);
        due("drawn(1, 3)", x.drawn(1, 3), 0);
        due("of(0, 2)", x.of(0, 2), 99);
        due("count(3)", x.count(3), 0);
        drawnOfTwo();
        due("drawn(-1, 0)", x.drawn(-1, 0), -2);
        due("drawn(61, 0)", x.drawn(61, 0), -2);
        due("drawn(0, -1)", x.drawn(0, -1), -2);
        due("drawn(0, 1000000)", x.drawn(0, 1000000), -2);
        status(x, 4, 0, 0);
    }

    private static void drawnOfTwo() {
        DragonTithe x = new DragonTithe();
        x.county(2); x.lot(0, 0, 99); x.lot(0, 1, 50); x.cloud(0, 4); x.cloud(1, 6);
        // SEED 1 leaves 8 8, 3 5, 1 7, 0 9, 2 6: of 0, of none, then of 1.
        int[] taken = {0, 10, 10, 15, 20, 24};
        for (int m = 0; m < 6; m++) due("drawn(" + m + ", 1)", x.drawn(m, 1), taken[m]);
        x.growth(1);
        due("it grows: 51, 52, 47 + 1", x.drawn(4, 1), 10 + 6 + 5);
    }

    private static void promise32() {
        promise = 32;
        DragonTithe x = new DragonTithe();
        due("part(0)", x.part(0), 0);
        due("part(1)", x.part(1), 1);
        due("part(2)", x.part(2), -100000);
        due("part(-1)", x.part(-1), -100000);
        due("part(MAX)", x.part(MAX), -100000);
        status(x, 3, 0, 0);
        x.lot(0, 0, 40); x.cloud(0, 4);
        x.mean(0);
        fraction(x, "lowest terms", 12, 5);
    }

    private static void promise33() {
        promise = 33;
        DragonTithe x = new DragonTithe();
        due("image(2)", x.image(2), -2);
        due("image(-1)", x.image(-1), -2);
        due("image(0)", x.image(0), 1);
        x.lot(0, 0, 7);
        due("image(1)", x.image(1), 1);
        x.lot(0, 0, 8);
        due("image(1) again", x.image(1), 1);
        x.drop(); x.drop();
        x.from(1);
        due("the later image", x.count(1), 2);
        x.from(0);
        due("the other image", x.count(1), 0);
        status(x, 2, 0, 0);
    }

    private static void promise34() {
        promise = 34;
        DragonTithe x = new DragonTithe();
        due("from(2)", x.from(2), -2);
        due("from(-1)", x.from(-1), -2);
        due("from(1)", x.from(1), -3);
        x.county(4); x.lot(3, 3, 41); x.lot(0, 3, 20); x.road(0, 3); x.guard(0, true);
        x.growth(4); x.cloud(2, 6); x.told(1, 77); x.moon(0, false); x.drive(0, 1, 1);
        long before = x.digest();
        x.image(1);
        x.undo(); x.guard(0, false); x.move(0, 1); x.growth(1); x.cloud(2, 0); x.told(1, 1); x.road(1, 2); x.moon(0, true);
        due("from(0)", x.from(0), -3);
        due("from(1)", x.from(1), 1);
        due("digest", x.digest(), before);
        due("what may be undone they keep", x.undo(), 1);
        due("undo()", x.undo(), 1);
        due("of(0, 2)", x.of(0, 2), 41);
        due("undo()", x.undo(), -3);
        due("from(1) again", x.from(1), 1);
        due("digest", x.digest(), before);
        x.type(65); x.chance(3);
        due("from(1)", x.from(1), 1);
        due("THE TEXT stays", x.count(5), 1);
        fraction(x, "THE FRACTION stays", 1, 1);
        status(x, 2, 3, 0);
        x.county(1); x.lot(0, 0, 99); x.lot(0, 0, 99);
        for (int i = 0; i < 9; i++) x.moon(0, true);
        x.from(1); x.clear();
        due("digest", x.digest(), before - digestTail(0, 1) + digestTail(1, 1));
        x.undo(); x.undo();
        due("what it keeps is its own", x.count(3), 0);
        due("what it keeps is its own", x.of(0, 2), 41);
        due("what it keeps is its own", x.of(1, 2), 20);
    }

    /** What THE FRACTION adds to a digest. */
    private static long digestTail(long above, long below) {
        return 31 * above + below;
    }

    private static void promise35() {
        promise = 35;
        DragonTithe x = new DragonTithe();
        x.lot(9, 0, 0); x.growth(10); x.drop();
        status(x, 2, 1, 0);
        due("status(3)", x.status(3), -1);
        due("status(-1)", x.status(-1), -1);
        status(x, 4, 1, 0);
        x.greatest(-1); x.part(7); x.fit(0, 0); x.game(0, 0, 0); x.least(0, 9, 0);
        status(x, 9, 1, 0);
        x.read(); x.greatest(0); x.unseen(0, 1); x.game(0, 1, 1); x.painting(0, 0);
        status(x, 9, 1, 0);
    }

    private static void promise36() {
        promise = 36;
        DragonTithe x = new DragonTithe();
        x.county(4); x.lot(0, 0, 9); x.lot(0, 0, 9); x.road(0, 1); x.growth(8);
        x.moon(0, false); x.moon(0, false); x.drive(0, 1, 1);
        for (int i = 0; i < 5; i++) x.type(1);
        int[] counts = {4, 2, 1, 2, 3, 5, 8};
        for (int i = 0; i < 7; i++) due("count(" + i + ")", x.count(i), counts[i]);
        due("count(7)", x.count(7), -2);
        due("count(-1)", x.count(-1), -2);
        status(x, 2, 0, 0);
    }

    private static void promise37() {
        promise = 37;
        DragonTithe x = new DragonTithe();
        x.county(2); x.lot(5, 1, 33); x.lot(0, 0, 20); x.road(1, 0); x.guard(0, true);
        x.growth(3); x.cloud(1, 4); x.told(0, 7); x.told(1, 8); x.told(2, 9); x.type(65); x.moon(2, false);
        x.mean(1);
        long[] row = {2, 2, 1, 1, 1, 1, 3, 0, 4, 5, 1, 33, 0, 0, 21, 1, 0, 1, 7, 8, 9, 3, 5};
        due("digest", x.digest(), digestOf(row));
        x.status(9);
        due("STATUS is not in it", x.digest(), digestOf(row));
        x.image(0);
        due("IMAGES are not in it", x.digest(), digestOf(row));
    }
}
