import java.util.ArrayList;
import java.util.Arrays;
import java.util.List;

/**
 * Every call with every row of numbers near the ends that the document names, and far ones, on several counties:
 * no call throws, each answers as the Oracle does, and one that is refused changes nothing but STATUS.
 */
public final class EveryCallTest extends Edges {
    private static final int[] ALL = {MIN, MIN + 1, -65536, -100001, -256, -33, -32, -11, -10, -5, -4, -3, -2, -1, 0, 1, 2, 3, 4, 5, 6, 7,
        8, 9, 10, 11, 15, 16, 17, 30, 31, 32, 33, 39, 40, 41, 59, 60, 61, 63, 64, 98, 99, 100, 126, 127, 128, 149, 150, 151, 255, 256, 257,
        998, 999, 1000, 1001, 65535, 65536, 999998, 999999, 1000000, MAX - 1, MAX};
    /** For two numbers at once, for three. */
    private static final int[] MANY = {MIN, -11, -10, -2, -1, 0, 1, 2, 3, 4, 5, 6, 9, 10, 11, 32, 40, 41, 60, 61, 99, 100, 999, 1000, 65536,
        999999, 1000000, MAX};
    private static final int[] FEW = {MIN, -1, 0, 1, 2, 3, 4, 5, 6, 9, 10, 99, 100, MAX};

    private interface Told { long on(DragonTithe x, Oracle o, int[] numbers, boolean ofTheClass); }

    private static final class Row {
        final String name;
        final int many;
        final Told call;
        Row(String name, int many, Told call) { this.name = name; this.many = many; this.call = call; }
    }

    private static int calls = 0, wrongs = 0;

    public static void main(String[] args) {
        for (int start = 0; start < 6; start++) for (Row row : rows()) everyRow(start, row, new int[row.many], 0);
        System.out.println("EveryCallTest: " + calls + " calls, " + (wrongs == 0 ? "all as due" : wrongs + " are not as due"));
        if (wrongs != 0) System.exit(1);
    }

    private static List<Row> rows() {
        List<Row> r = new ArrayList<>();
        r.add(new Row("county", 1, (x, o, n, c) -> c ? x.county(n[0]) : o.county(n[0])));
        r.add(new Row("lot", 3, (x, o, n, c) -> c ? x.lot(n[0], n[1], n[2]) : o.lot(n[0], n[1], n[2])));
        r.add(new Row("move", 2, (x, o, n, c) -> c ? x.move(n[0], n[1]) : o.move(n[0], n[1])));
        r.add(new Row("drive", 3, (x, o, n, c) -> c ? x.drive(n[0], n[1], n[2]) : o.drive(n[0], n[1], n[2])));
        r.add(new Row("drop", 0, (x, o, n, c) -> c ? x.drop() : o.drop()));
        r.add(new Row("growth", 1, (x, o, n, c) -> c ? x.growth(n[0]) : o.growth(n[0])));
        r.add(new Row("cloud", 2, (x, o, n, c) -> c ? x.cloud(n[0], n[1]) : o.cloud(n[0], n[1])));
        r.add(new Row("road", 2, (x, o, n, c) -> c ? x.road(n[0], n[1]) : o.road(n[0], n[1])));
        r.add(new Row("guard it", 1, (x, o, n, c) -> c ? x.guard(n[0], true) : o.guard(n[0], true)));
        r.add(new Row("guard it not", 1, (x, o, n, c) -> c ? x.guard(n[0], false) : o.guard(n[0], false)));
        r.add(new Row("type", 1, (x, o, n, c) -> c ? x.type(n[0]) : o.type(n[0])));
        r.add(new Row("clear", 0, (x, o, n, c) -> c ? x.clear() : o.clear()));
        r.add(new Row("read", 0, (x, o, n, c) -> c ? x.read() : o.read()));
        r.add(new Row("moon of one", 1, (x, o, n, c) -> c ? x.moon(n[0], false) : o.moon(n[0], false)));
        r.add(new Row("moon of two", 1, (x, o, n, c) -> c ? x.moon(n[0], true) : o.moon(n[0], true)));
        r.add(new Row("undo", 0, (x, o, n, c) -> c ? x.undo() : o.undo()));
        r.add(new Row("of", 2, (x, o, n, c) -> c ? x.of(n[0], n[1]) : o.of(n[0], n[1])));
        r.add(new Row("village", 2, (x, o, n, c) -> c ? x.village(n[0], n[1]) : o.village(n[0], n[1])));
        r.add(new Row("greatest", 1, (x, o, n, c) -> c ? x.greatest(n[0]) : o.greatest(n[0])));
        addAdvice(r);
        r.add(new Row("part", 1, (x, o, n, c) -> c ? x.part(n[0]) : o.part(n[0])));
        r.add(new Row("image", 1, (x, o, n, c) -> c ? x.image(n[0]) : o.image(n[0])));
        r.add(new Row("from", 1, (x, o, n, c) -> c ? x.from(n[0]) : o.from(n[0])));
        r.add(new Row("status", 1, (x, o, n, c) -> c ? x.status(n[0]) : o.status(n[0])));
        r.add(new Row("count", 1, (x, o, n, c) -> c ? x.count(n[0]) : o.count(n[0])));
        r.add(new Row("digest", 0, (x, o, n, c) -> c ? x.digest() : o.digest()));
        return r;
    }

    private static void addAdvice(List<Row> r) {
        r.add(new Row("least", 3, (x, o, n, c) -> c ? x.least(n[0], n[1], n[2]) : o.least(n[0], n[1], n[2])));
        r.add(new Row("chance", 1, (x, o, n, c) -> c ? x.chance(n[0]) : o.chance(n[0])));
        r.add(new Row("mean", 1, (x, o, n, c) -> c ? x.mean(n[0]) : o.mean(n[0])));
        r.add(new Row("painting", 2, (x, o, n, c) -> c ? x.painting(n[0], n[1]) : o.painting(n[0], n[1])));
        r.add(new Row("unseen", 2, (x, o, n, c) -> c ? x.unseen(n[0], n[1]) : o.unseen(n[0], n[1])));
        r.add(new Row("cut", 3, (x, o, n, c) -> c ? x.cut(n[0], n[1], n[2]) : o.cut(n[0], n[1], n[2])));
        r.add(new Row("game", 3, (x, o, n, c) -> c ? x.game(n[0], n[1], n[2]) : o.game(n[0], n[1], n[2])));
        r.add(new Row("league", 1, (x, o, n, c) -> c ? x.league(n[0]) : o.league(n[0])));
        r.add(new Row("share", 1, (x, o, n, c) -> c ? x.share(n[0]) : o.share(n[0])));
        r.add(new Row("pays", 2, (x, o, n, c) -> c ? x.pays(n[0], n[1]) : o.pays(n[0], n[1])));
        r.add(new Row("told", 2, (x, o, n, c) -> c ? x.told(n[0], n[1]) : o.told(n[0], n[1])));
        // Some hundred thousand rows of CLOUDS are too many for the Oracle to go through again and again.
        r.add(new Row("fit", 2, (x, o, n, c) -> c ? x.fit(n[0] == 3 ? 2 : n[0], n[1]) : o.fit(n[0] == 3 ? 2 : n[0], n[1])));
        r.add(new Row("drawn", 2, (x, o, n, c) -> c ? x.drawn(n[0], n[1]) : o.drawn(n[0], n[1])));
    }

    private static void everyRow(int start, Row row, int[] numbers, int at) {
        if (at == numbers.length) {
            if (wrongs < 20) oneCall(start, row, numbers);
            return;
        }
        for (int k : row.many == 3 ? FEW : row.many == 2 ? MANY : ALL) {
            numbers[at] = k;
            everyRow(start, row, numbers, at + 1);
        }
    }

    private static void oneCall(int start, Row row, int[] numbers) {
        DragonTithe x = new DragonTithe();
        Oracle o = new Oracle();
        tell(start, x, o);
        calls++;
        long before = o.digest(), bad = o.status(0), no = o.status(1), full = o.status(2);
        long got = row.call.on(x, null, numbers, true), want = row.call.on(null, o, numbers, false);
        boolean refused = o.status(0) + o.status(1) + o.status(2) > bad + no + full;
        boolean same = got == want && x.status(0) == o.status(0) && x.status(1) == o.status(1) && x.status(2) == o.status(2)
            && x.digest() == o.digest() && (!refused || x.digest() == before);
        if (!same) {
            wrongs++;
            System.out.println(row.name + Arrays.toString(numbers) + " on county " + start + " answered " + got + ", due is " + want);
        }
    }

    /** The same to both: a new one, the least, a middle one, full ones. */
    private static void tell(int start, DragonTithe x, Oracle o) {
        if (start == 0) return;
        int n = start == 1 ? 1 : start;
        x.county(n); o.county(n);
        int lots = start == 1 ? 1 : 2 * n;
        for (int i = 0; i < lots; i++) { x.lot(i % 6, i % n, 99 - 9 * i); o.lot(i % 6, i % n, 99 - 9 * i); }
        for (int a = 0; a < n; a++) for (int b = 0; b < a; b++) { x.road(a, b); o.road(a, b); }
        for (int v = 0; v < n; v++) { x.cloud(v, 2 * v + 1); o.cloud(v, 2 * v + 1); }
        x.guard(n - 2, true); o.guard(n - 2, true);
        x.growth(start); o.growth(start);
        x.image(start % 2); o.image(start % 2);
        for (int i = 0; i < 3 * start; i++) { x.moon(i % 2, i % 3 == 0); o.moon(i % 2, i % 3 == 0); }
        x.told(0, 6); o.told(0, 6);
        x.share(0); o.share(0);
        String text = start == 5 ? blanks(150) : "county 2;growth " + start + ";";
        for (int i = 0; i < text.length(); i++) { x.type(text.charAt(i)); o.type(text.charAt(i)); }
    }
}
