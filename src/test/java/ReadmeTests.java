import java.net.URL;
import java.net.URLClassLoader;
import java.nio.file.Files;
import java.nio.file.Path;
import java.util.ArrayList;
import java.util.List;
import java.util.Set;
import java.util.TreeSet;
import java.util.regex.Matcher;
import java.util.regex.Pattern;
import javax.tools.ToolProvider;

/** Compiles the example of README.md and holds each answer against the one that stands behind the call. */
public final class ReadmeTests {
    private static final Pattern EXAMPLE = Pattern.compile("```java\n(.*?)```", Pattern.DOTALL);
    private static final Pattern ANSWERED = Pattern.compile("(x\\.(\\w+)\\(.*\\));\\s*// (-?\\d+|NONE|UNKNOWN|OUTSIDE|NOT|FULL)\\b.*");
    private static final Pattern CALLED = Pattern.compile("\\bx\\.(\\w+)\\(");
    private static int wrong = 0;

    public static void main(String[] args) throws Exception {
        Matcher example = EXAMPLE.matcher(Files.readString(Path.of("README.md")));
        if (!example.find()) {
            System.out.println("README.md has no example");
            System.exit(1);
        }
        String code = example.group(1);
        allCallsAreShown(code);
        run(code);
        System.out.println(wrong == 0 ? "the example holds" : wrong + " answers of the example do not hold");
        if (wrong != 0) {
            System.exit(1);
        }
    }

    /** Called by the compiled example. */
    public static void due(String call, long got, long want) {
        if (got != want) {
            wrong++;
            System.out.println(call + " answered " + got + ", README.md says " + want);
        }
    }

    private static void allCallsAreShown(String code) {
        Set<String> shown = new TreeSet<>();
        Matcher called = CALLED.matcher(code);
        while (called.find()) {
            shown.add(called.group(1));
        }
        for (var method : DrawsOut.class.getMethods()) {
            if (method.getDeclaringClass() == DrawsOut.class && !shown.contains(method.getName())) {
                wrong++;
                System.out.println("the example does not show " + method.getName());
            }
        }
    }

    private static void run(String code) throws Exception {
        List<String> lines = new ArrayList<>(List.of("public final class Example {", "public static void main(String[] args) {"));
        int answers = 0;
        for (String line : code.split("\n")) {
            Matcher answered = ANSWERED.matcher(line);
            if (answered.matches()) {
                answers++;
                String want = answered.group(3).matches("[A-Z]+") ? "DrawsOut." + answered.group(3) : answered.group(3) + "L";
                line = "ReadmeTests.due(\"" + answered.group(1) + "\", " + answered.group(1) + ", " + want + ");";
            }
            lines.add(line);
        }
        lines.add("}}");
        due("how many answers the example tells: 40 or more, 1 if so,", answers >= 40 ? 1 : 0, 1);
        Path room = Files.createTempDirectory("readme");
        Path source = room.resolve("Example.java");
        Files.write(source, lines);
        int compiled = ToolProvider.getSystemJavaCompiler().run(null, null, null, "-proc:none", "-cp",
            System.getProperty("java.class.path"), "-d", room.toString(), source.toString());
        due("the example is compiled: 0 if so,", compiled, 0);
        if (compiled == 0) {
            try (URLClassLoader loader = new URLClassLoader(new URL[] {room.toUri().toURL()}, ReadmeTests.class.getClassLoader())) {
                loader.loadClass("Example").getMethod("main", String[].class).invoke(null, (Object) new String[0]);
            }
        }
        for (String name : new String[] {"Example.class", "Example.java"}) {
            Files.deleteIfExists(room.resolve(name));
        }
        Files.deleteIfExists(room);
    }
}
