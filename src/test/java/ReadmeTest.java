import java.io.File;
import java.lang.reflect.InvocationTargetException;
import java.net.URL;
import java.net.URLClassLoader;
import java.nio.file.Files;
import java.nio.file.Path;
import java.util.ArrayList;
import java.util.List;
import java.util.regex.Matcher;
import java.util.regex.Pattern;
import javax.tools.ToolProvider;

/** README.md's examples compile, and each number behind // is what the line before it answers. */
public final class ReadmeTest {
    private static final Pattern TOLD = Pattern.compile("(?:int|long) (\\w+) = .*; +// (-?\\d+)\\b.*");
    private static final Check CHECK = new Check("ReadmeTest");

    public static void main(String[] args) throws Exception {
        List<List<String>> examples = examples(Files.readAllLines(Path.of("README.md")));
        CHECK.due("examples", examples.size(), 3);
        Path room = Files.createTempDirectory("readme");
        for (int i = 0; i < examples.size(); i++) tryOut("Example" + i, examples.get(i), room);
        for (File file : room.toFile().listFiles()) Files.delete(file.toPath());
        Files.delete(room);
        CHECK.end();
    }

    private static List<List<String>> examples(List<String> lines) {
        List<List<String>> examples = new ArrayList<>();
        boolean inside = false;
        for (String line : lines) {
            if (line.equals("```java")) {
                examples.add(new ArrayList<>());
                inside = true;
            } else if (line.equals("```")) {
                inside = false;
            } else if (inside) {
                examples.get(examples.size() - 1).add(line);
            }
        }
        return examples;
    }

    /** Public, since the example, which another loader loads, calls it. */
    public static void due(String what, long got, long want) {
        CHECK.due(what, got, want);
    }

    private static void tryOut(String name, List<String> lines, Path room) throws Exception {
        StringBuilder text = new StringBuilder("public final class " + name + " { public static void main(String[] args) {\n");
        int told = 0;
        for (String line : lines) {
            text.append(line).append('\n');
            Matcher matcher = TOLD.matcher(line);
            if (!matcher.matches()) continue;
            told++;
            String what = name + "'s " + matcher.group(1);
            text.append("ReadmeTest.due(\"" + what + "\", " + matcher.group(1) + ", " + matcher.group(2) + ");\n");
        }
        CHECK.holds(name + " tells most of its answers", told >= lines.size() - 2 && told > 3);
        Path file = room.resolve(name + ".java");
        Files.writeString(file, text.append("} }\n"));
        String classes = System.getProperty("java.class.path");
        int failed = ToolProvider.getSystemJavaCompiler()
            .run(null, null, null, "-cp", classes, "-d", room.toString(), file.toString());
        CHECK.due(name + " compiles", failed, 0);
        if (failed == 0) runExample(name, room);
    }

    private static void runExample(String name, Path room) throws Exception {
        URL[] rooms = {room.toUri().toURL()};
        try (URLClassLoader loader = new URLClassLoader(rooms, ReadmeTest.class.getClassLoader())) {
            loader.loadClass(name).getMethod("main", String[].class).invoke(null, (Object) new String[0]);
        } catch (InvocationTargetException e) {
            CHECK.same(name + " threw", e.getCause(), null);
        }
    }
}
