import java.util.ArrayList;
import java.util.Collections;
import java.util.List;
import java.util.Random;

/**
 * Random runs of just 512 calls on one object, each answer compared with the Oracle's; between them, and as the last ones,
 * digest and STATUS, which are among the 512, too.
 */
public final class RandomRunsTest {
    private static final int RUNS = 1000, CALLS = 512, LAST = 4;
    private static int wrong = 0, left = 0;

    public static void main(String[] args) {
        int runs = args.length > 0 ? Integer.parseInt(args[0]) : RUNS;
        for (int run = 0; run < runs && wrong < 10; run++) oneRun(run);
        System.out.println(wrong == 0 ? "RandomRunsTest: all answers are as due" : wrong + " answers are not as due");
        if (wrong != 0) System.exit(1);
    }

    private static void oneRun(int run) {
        Random r = new Random(run);
        DragonTithe x = new DragonTithe();
        Oracle o = new Oracle();
        left = CALLS;
        int texts = run % 3;
        while (left > LAST) {
            boolean told = r.nextInt(120) < texts;
            if (told ? oneText(run, r, x, o) : oneCall(run, r, x, o)) return;
            if (left > LAST && r.nextInt(3) == 0 && check(run, "digest()", x.digest(), o.digest())) return;
        }
        for (int reason = 0; reason < 3; reason++) {
            if (check(run, "status(" + reason + ")", x.status(reason), o.status(reason))) return;
        }
        check(run, "digest()", x.digest(), o.digest());
        if (left != 0) throw new IllegalStateException("run " + run + " has " + left + " calls left");
    }

    /** THE TEXT anew, up to where the run ends. */
    private static boolean oneText(int run, Random r, DragonTithe x, Oracle o) {
        if (check(run, "clear()", x.clear(), o.clear())) return true;
        String text = r.nextInt(2) == 0 ? text(r) : fullText(r);
        for (int i = 0; i < text.length() && left > LAST + 1; i++) {
            char c = text.charAt(i);
            if (check(run, "type(" + (int) c + ")", x.type(c), o.type(c))) return true;
        }
        return left > LAST && check(run, "read() of '" + text + "'", x.read(), o.read());
    }

    private static boolean check(int run, String call, long got, long want) {
        left--;
        if (got == want) return false;
        wrong++;
        System.out.println("run " + run + ", call " + (CALLS - left) + ": " + call + " answered " + got + ", due is " + want);
        return true;
    }

    /** A number from low to high, or now and then one just outside or far outside. */
    private static int num(Random r, int low, int high) {
        int k = r.nextInt(60);
        if (k == 0) return low - 1;
        if (k == 1) return high + 1;
        if (k == 2) return r.nextBoolean() ? Integer.MAX_VALUE : Integer.MIN_VALUE;
        return low + r.nextInt(high - low + 1);
    }

    private static boolean oneCall(int run, Random r, DragonTithe x, Oracle o) {
        int n = Math.max(0, o.now.n - 1), lots = Math.max(0, o.now.lots.size() - 1), clouds = (1 << o.now.n) - 1;
        int roads = Math.max(0, o.now.roads.size() - 1);
        int a, b, c;
        boolean is = r.nextBoolean();
        switch (r.nextInt(48)) {
            case 0: if (r.nextInt(6) != 0) return false; a = num(r, 1, 5); return check(run, "county(" + a + ")", x.county(a), o.county(a));
            case 1: case 2: case 3: case 4:
                a = num(r, 0, 5); b = num(r, 0, n); c = r.nextInt(4) == 0 ? num(r, 0, 12) : num(r, 0, 99);
                return check(run, "lot(" + a + "," + b + "," + c + ")", x.lot(a, b, c), o.lot(a, b, c));
            case 5: a = num(r, 0, lots); b = num(r, 0, n); return check(run, "move", x.move(a, b), o.move(a, b));
            case 6: a = num(r, 0, lots); b = num(r, 0, lots); c = num(r, 0, 50); return check(run, "drive", x.drive(a, b, c), o.drive(a, b, c));
            case 7: if (r.nextInt(3) != 0) return false; return check(run, "drop", x.drop(), o.drop());
            case 8: a = num(r, 0, 9); return check(run, "growth", x.growth(a), o.growth(a));
            case 9: case 10: a = num(r, 0, n); b = num(r, 0, 10); return check(run, "cloud", x.cloud(a, b), o.cloud(a, b));
            case 11: case 12: case 13: a = num(r, 0, n); b = num(r, 0, n); return check(run, "road", x.road(a, b), o.road(a, b));
            case 14: case 15: a = num(r, 0, roads); return check(run, "guard", x.guard(a, is), o.guard(a, is));
            case 16: a = num(r, 0, 127); return check(run, "type", x.type(a), o.type(a));
            case 17: return check(run, "read", x.read(), o.read());
            case 18: case 19: case 20: a = num(r, 0, clouds); return check(run, "moon(" + a + "," + is + ")", x.moon(a, is), o.moon(a, is));
            case 21: case 22: return check(run, "undo", x.undo(), o.undo());
            case 23: a = num(r, 0, lots); b = num(r, 0, 4); return check(run, "of", x.of(a, b), o.of(a, b));
            case 24: a = num(r, 0, n); b = num(r, 0, 1); return check(run, "village", x.village(a, b), o.village(a, b));
            case 25: a = num(r, 0, clouds); return check(run, "greatest(" + a + ")", x.greatest(a), o.greatest(a));
            case 26: case 27: a = num(r, 0, clouds); b = num(r, 0, 2); c = num(r, 0, 2); return check(run, "least(" + a + "," + b + "," + c + ")", x.least(a, b, c), o.least(a, b, c));
            case 28: a = num(r, 0, n); return check(run, "chance", x.chance(a), o.chance(a));
            case 29: a = num(r, -1, n); return check(run, "mean", x.mean(a), o.mean(a));
            case 30: case 31: a = num(r, 0, n); b = num(r, 0, 99); return check(run, "painting", x.painting(a, b), o.painting(a, b));
            case 32: a = num(r, 0, n); b = num(r, 0, n); return check(run, "unseen", x.unseen(a, b), o.unseen(a, b));
            case 33: case 34: a = num(r, 0, n); b = num(r, 0, n); c = num(r, 0, 1); return check(run, "cut(" + a + "," + b + "," + c + ")", x.cut(a, b, c), o.cut(a, b, c));
            case 35: a = num(r, 0, n); b = num(r, 0, n); c = num(r, 0, 1); return check(run, "game(" + a + "," + b + "," + c + ")", x.game(a, b, c), o.game(a, b, c));
            case 36: a = num(r, 0, clouds); return check(run, "league", x.league(a), o.league(a));
            case 37: a = num(r, 0, n); return check(run, "share", x.share(a), o.share(a));
            case 38: a = num(r, 0, n); b = num(r, 0, 40); return check(run, "pays", x.pays(a, b), o.pays(a, b));
            case 39: a = num(r, 0, 2); b = r.nextInt(5) == 0 ? num(r, 0, 999) : takenNext(r, o); return check(run, "told", x.told(a, b), o.told(a, b));
            case 40: a = r.nextInt(8) == 0 ? 3 : num(r, 0, 2); b = num(r, 0, 1); return check(run, "fit(" + a + "," + b + ")", x.fit(a, b), o.fit(a, b));
            case 41: a = num(r, 0, 60); b = num(r, 0, 999999); return check(run, "drawn", x.drawn(a, b), o.drawn(a, b));
            case 42: a = num(r, 0, 1); return check(run, "part", x.part(a), o.part(a));
            case 43: a = num(r, 0, 1); return check(run, "image", x.image(a), o.image(a));
            case 44: a = num(r, 0, 1); if (r.nextInt(3) != 0) return false; return check(run, "from", x.from(a), o.from(a));
            case 45: a = num(r, 0, 2); return check(run, "status", x.status(a), o.status(a));
            case 46: a = num(r, 0, 6); return check(run, "count", x.count(a), o.count(a));
            default: return check(run, "digest", x.digest(), o.digest());
        }
    }

    /** What a next MOON would take, so that rows of CLOUDS fit. */
    private static int takenNext(Random r, Oracle o) {
        Oracle.World w = o.now.copy();
        for (int i = r.nextInt(3); i > 0; i--) w.moonBy(r.nextInt(1 << w.n), false);
        return w.moonBy(r.nextInt(1 << w.n), false);
    }

    private static String text(Random r) {
        StringBuilder s = new StringBuilder();
        int n = 1 + r.nextInt(5), roads = 0, items = r.nextInt(9);
        if (r.nextInt(20) != 0) s.append(blanks(r)).append("county").append(blanks(r)).append(r.nextInt(20) == 0 ? num(r, 0, 6) & 63 : n).append(";");
        for (int i = 0; i < items; i++) {
            s.append(blanks(r));
            switch (r.nextInt(5)) {
                case 0: s.append("lot ").append(r.nextInt(6)).append(' ').append(r.nextInt(n)).append(' ').append(r.nextInt(100)); break;
                case 1: s.append("growth ").append(r.nextInt(30) == 0 ? 10 : r.nextInt(10)); break;
                case 2: s.append("cloud ").append(r.nextInt(n)).append(blanks(r)).append(' ').append(r.nextInt(11)); break;
                case 3: s.append("road ").append(r.nextInt(n)).append(' ').append(r.nextInt(n)); roads++; break;
                default: s.append("guard").append(blanks(r)).append(r.nextInt(Math.max(1, roads)));
            }
            s.append(blanks(r)).append(';');
        }
        if (r.nextInt(3) == 0 && s.length() > 0) {
            int at = r.nextInt(s.length());
            String odd = " ;0123459azct#A\u0000\u007f";
            switch (r.nextInt(5)) {
                case 0: s.deleteCharAt(at); break;
                case 1: s.setLength(at); break;
                case 2: s.insert(at, odd.charAt(r.nextInt(odd.length()))); break;
                case 3: s.insert(at, figures(r)); break;
                default: s.setCharAt(at, odd.charAt(r.nextInt(odd.length())));
            }
        }
        return s.length() > 170 ? s.substring(0, 170) : s.toString();
    }

    /** Just 150 bytes of ITEMS that hold, and in most of them one that is refused, or a FAULT, far behind. */
    private static String fullText(Random r) {
        int n = 2 + r.nextInt(4), lots = 0, guards = 0;
        StringBuilder s = new StringBuilder("county").append(n).append(';');
        List<String> roads = new ArrayList<>();
        for (int a = 0; a < n; a++) for (int b = a + 1; b < n; b++) roads.add(r.nextBoolean() ? a + " " + b : b + " " + a);
        Collections.shuffle(roads, r);
        int road = 0;
        while (s.length() < 126) {
            int sort = r.nextInt(5);
            if (sort == 0 && lots < 10) { s.append("lot").append(r.nextInt(6)).append(' ').append(r.nextInt(n)).append(' ').append(r.nextInt(100)); lots++; }
            else if (sort == 1 && road < roads.size()) s.append("road").append(roads.get(road++));
            else if (sort == 2 && guards < road) s.append("guard").append(guards++);
            else if (sort == 3) s.append("cloud").append(r.nextInt(n)).append(' ').append(r.nextInt(11));
            else s.append("growth").append(r.nextInt(10));
            s.append(';');
        }
        String[] last = {"growth 9;", "growth 10;", "cloud 9 1;", "cloud 1 11;", "road 1 1;", "guard 10;", "lot 0 1 99;", "lot 6 0 0;", "lot 0 0 100;",
            "county 1;", "growt 1;", "growth 1", "growth", "growth ;", ";", "1;", "#", "lot 0 0;", "growth 1 1;", ""};
        String end = r.nextInt(3) == 0 ? "growth 9;" : last[r.nextInt(last.length)];
        if (r.nextInt(4) == 0) s.append("road 0 1;");
        int blanks = Math.max(0, 150 - s.length() - end.length());
        int behind = r.nextInt(blanks + 1);
        s.append(" ".repeat(blanks - behind)).append(end).append(" ".repeat(behind));
        s.setLength(150);
        return s.toString();
    }

    /** One to four figures: next to others, or by themselves, they make numbers that can not stand. */
    private static String figures(Random r) {
        StringBuilder s = new StringBuilder();
        for (int i = r.nextInt(4); i >= 0; i--) s.append(r.nextInt(10));
        return s.toString();
    }

    private static String blanks(Random r) {
        return "  ".substring(r.nextInt(3));
    }
}
