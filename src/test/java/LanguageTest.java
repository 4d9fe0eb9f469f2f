import java.lang.reflect.Constructor;
import java.lang.reflect.Field;
import java.lang.reflect.Method;
import java.lang.reflect.Modifier;
import java.nio.file.Files;
import java.nio.file.Path;
import java.util.Set;
import java.util.TreeSet;
import java.util.regex.Matcher;
import java.util.regex.Pattern;

/** The face of the class, and what ../shared/LANGUAGE.md rules out and can be seen without a compiler. */
public final class LanguageTest {
    private static final String SOURCE = "src/main/java/DragonTithe.java";
    private static final String FACE = "county:int(int) lot:int(int,int,int) move:int(int,int) drive:int(int,int,int) drop:int() "
        + "growth:int(int) cloud:int(int,int) road:int(int,int) guard:int(int,boolean) type:int(int) clear:int() read:int() "
        + "moon:int(int,boolean) undo:int() of:int(int,int) village:int(int,int) greatest:int(int) least:int(int,int,int) "
        + "chance:int(int) mean:int(int) painting:int(int,int) unseen:int(int,int) cut:int(int,int,int) game:int(int,int,int) "
        + "league:int(int) share:int(int) pays:int(int,int) told:int(int,int) fit:int(int,int) drawn:int(int,int) "
        + "part:long(int) image:int(int) from:int(int) status:int(int) count:int(int) digest:long()";
    private static final String[] RULED_OUT = {"throw", "throws", "try", "catch", "finally", "synchronized", "assert", "import", "package",
        "protected", "native", "volatile", "transient", "Object", "System\\s*\\.\\s*(?!arraycopy)", "Random", "Thread", "hashCode", "toString",
        "Exact", "static\\s*(?=\\{)", "->", "::", "\\?\\s*extends", "new\\s+\\w+\\s*\\([^)]*\\)\\s*(?=\\{)", "var"};
    private static int wrong = 0;

    public static void main(String[] args) throws Exception {
        face();
        Set<String> names = new TreeSet<>();
        for (String part : FACE.split(" ")) names.add(part.substring(0, part.indexOf(':')));
        int classes = 1;
        inside(DragonTithe.class, names);
        for (Class<?> c : DragonTithe.class.getDeclaredClasses()) {
            classes++;
            fail(!Modifier.isStatic(c.getModifiers()), c + " is not static");
            fail(Modifier.isPublic(c.getModifiers()) || Modifier.isProtected(c.getModifiers()), c + " is public or protected");
            inside(c, names);
        }
        fail(classes > 12, "there are " + classes + " classes");
        source();
        System.out.println(wrong == 0 ? "LanguageTest: all is as due" : wrong + " rules are broken");
        if (wrong != 0) System.exit(1);
    }

    private static void fail(boolean broken, String what) {
        if (broken) { wrong++; System.out.println(what); }
    }

    private static void face() {
        Class<?> c = DragonTithe.class;
        fail(!Modifier.isFinal(c.getModifiers()) || !Modifier.isPublic(c.getModifiers()), "the class is not public and final");
        Set<String> due = new TreeSet<>(Set.of(FACE.split(" "))), got = new TreeSet<>();
        for (Method m : c.getDeclaredMethods()) {
            if (Modifier.isPrivate(m.getModifiers())) continue;
            StringBuilder s = new StringBuilder(m.getName()).append(':').append(m.getReturnType().getName()).append('(');
            for (int i = 0; i < m.getParameterCount(); i++) s.append(i == 0 ? "" : ",").append(m.getParameterTypes()[i].getName());
            got.add(s.append(')').toString());
            fail(!Modifier.isPublic(m.getModifiers()) || Modifier.isStatic(m.getModifiers()), m + " is not of the face");
        }
        fail(!due.equals(got), "the methods are " + got);
        Set<String> constants = new TreeSet<>();
        for (Field f : c.getDeclaredFields()) if (!Modifier.isPrivate(f.getModifiers())) constants.add(f.getName());
        fail(!constants.equals(Set.of("NONE", "BAD", "NO", "FULL")), "the constants are " + constants);
        Constructor<?>[] made = c.getDeclaredConstructors();
        fail(made.length != 1 || made[0].getParameterCount() != 0 || !Modifier.isPublic(made[0].getModifiers()), "the constructor");
    }

    private static void inside(Class<?> c, Set<String> names) {
        int fields = 0;
        for (Field f : c.getDeclaredFields()) {
            if (Modifier.isStatic(f.getModifiers())) fail(!Modifier.isFinal(f.getModifiers()), f + " is not final");
            else fields++;
        }
        fail(fields > 20, c + " has " + fields + " fields");
        for (Method m : c.getDeclaredMethods()) {
            boolean ofFace = c == DragonTithe.class && Modifier.isPublic(m.getModifiers());
            fail(!ofFace && names.contains(m.getName()), m + " bears the name of a public method");
            fail(m.getParameterCount() > 7, m + " takes more than seven parameters");
        }
    }

    private static void source() throws Exception {
        String all = Files.readString(Path.of(SOURCE));
        for (int i = 0; i < all.length(); i++) fail(all.charAt(i) > 127, "a sign beyond 127 at " + i);
        String code = Pattern.compile("/\\*.*?\\*/", Pattern.DOTALL).matcher(all).replaceAll("");
        code = code.replaceAll("//[^\n]*", "");
        fail(Pattern.compile("\"\\s*\\+|\\+\\s*\"").matcher(code).find(), "texts are joined by +");
        code = code.replaceAll("\"[^\"\n]*\"", "\"\"");
        for (String word : RULED_OUT) {
            String edge = Character.isLetter(word.charAt(0)) ? "\\b" : "";
            Matcher m = Pattern.compile(edge + word + (edge.isEmpty() || word.endsWith(")") ? "" : "\\b")).matcher(code);
            fail(m.find(), word + " stands in the source");
        }
        library(code);
        lengths(all.split("\n"));
    }

    /** What is called by a class's name is the class's own, or of the library that rule 4 leaves. */
    private static void library(String code) {
        Set<String> own = new TreeSet<>();
        for (Class<?> c : DragonTithe.class.getDeclaredClasses()) own.add(c.getSimpleName());
        Set<String> left = Set.of("Math.min", "Math.max", "Math.abs", "Integer.bitCount", "System.arraycopy");
        Matcher m = Pattern.compile("\\b([A-Z]\\w*[a-z]\\w*)\\s*\\.\\s*(\\w+)\\s*\\(").matcher(code);
        while (m.find()) fail(!own.contains(m.group(1)) && !left.contains(m.group(1) + "." + m.group(2)), m.group() + " is not of the library");
    }

    /** From a method's head, four or eight blanks in, to the brace that ends it. */
    private static void lengths(String[] lines) {
        for (int i = 0; i < lines.length; i++) {
            Matcher head = Pattern.compile("^( {4}| {8})\\S.*\\) \\{$").matcher(lines[i]);
            if (!head.find()) continue;
            int end = i;
            while (end < lines.length && !lines[end].equals(head.group(1) + "}")) end++;
            fail(end - i + 1 > 60, "line " + (i + 1) + ": " + (end - i + 1) + " lines");
        }
    }
}
