import java.lang.reflect.Method;
import java.lang.reflect.Modifier;
import java.net.URL;
import java.net.URLClassLoader;
import java.nio.file.Files;
import java.nio.file.Path;
import java.util.Set;
import java.util.TreeSet;
import java.util.regex.Matcher;
import java.util.regex.Pattern;
import javax.tools.ToolProvider;

/** README.md's examples compile as they stand, each call answers the number behind it, and every call has an example. */
public final class ReadmeTest {
    private static final Pattern ANSWERED = Pattern.compile("(x\\.(\\w+)\\(.*\\));\\s*// (-?\\d+):.*");
    private static int wrong = 0, asked = 0;

    public static void main(String[] args) throws Exception {
        Set<String> named = new TreeSet<>();
        run(source(Files.readString(Path.of("README.md")), named));
        for (Method m : DragonTithe.class.getDeclaredMethods()) {
            if (Modifier.isPublic(m.getModifiers()) && !named.contains(m.getName())) fail(m.getName() + " has no example");
        }
        System.out.println("ReadmeTest: " + asked + " calls, " + (wrong == 0 ? "all as due" : wrong + " are not as due"));
        if (wrong != 0) System.exit(1);
    }

    private static void fail(String what) {
        wrong++;
        System.out.println("README.md: " + what);
    }

    public static void due(String call, long got, long want) {
        asked++;
        if (got != want) fail(call + " answers " + got + ", not " + want);
    }

    /** Each example becomes a block of its own; a line with an answer asks for it. */
    private static String source(String readme, Set<String> named) {
        StringBuilder s = new StringBuilder("public class ReadmeExamples { public static void main(String[] args) {\n");
        Matcher block = Pattern.compile("```java\n(.*?)```", Pattern.DOTALL).matcher(readme);
        while (block.find()) {
            s.append("{\n");
            for (String line : block.group(1).split("\n")) {
                Matcher m = ANSWERED.matcher(line);
                if (m.matches()) {
                    named.add(m.group(2));
                    String call = m.group(1);
                    s.append("ReadmeTest.due(\"").append(call.replace("\"", "'")).append("\", ").append(call).append(", ").append(m.group(3)).append("L);\n");
                } else {
                    s.append(line).append('\n');
                }
            }
            s.append("}\n");
        }
        return s.append("} }\n").toString();
    }

    private static void run(String source) throws Exception {
        Path dir = Files.createDirectories(Path.of("build", "ci", "readme"));
        Path file = Files.writeString(dir.resolve("ReadmeExamples.java"), source);
        String own = System.getProperty("java.class.path");
        int failed = ToolProvider.getSystemJavaCompiler().run(null, null, null, "-cp", own, "-d", dir.toString(), file.toString());
        if (failed != 0) {
            fail("the examples do not compile");
            return;
        }
        try (URLClassLoader loader = new URLClassLoader(new URL[] {dir.toUri().toURL()}, ReadmeTest.class.getClassLoader())) {
            loader.loadClass("ReadmeExamples").getMethod("main", String[].class).invoke(null, (Object) new String[0]);
        }
    }
}
