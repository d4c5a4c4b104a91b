import java.io.ByteArrayOutputStream;
import java.io.IOException;
import java.io.PrintStream;
import java.net.URL;
import java.net.URLClassLoader;
import java.nio.charset.StandardCharsets;
import java.nio.file.Files;
import java.nio.file.Path;
import java.util.Set;
import java.util.TreeSet;
import java.util.regex.Matcher;
import java.util.regex.Pattern;
import javax.tools.ToolProvider;

/** README.md, from the project's directory: its example prints what it tells, and it names every call. */
public final class ScheduleCheckReadme {
    public static void main(String[] args) throws Exception {
        String readme = Files.readString(Path.of("README.md"));
        example(readme);
        calls(readme);
        Probe.finish("ScheduleCheckReadme");
    }

    /** What stands in the first block of a sort, from a place on. */
    private static String block(String readme, String sort, int from) {
        String opening = "```" + sort + "\n";
        int start = readme.indexOf(opening, from) + opening.length();
        return readme.substring(start, readme.indexOf("```", start));
    }

    private static void example(String readme) throws Exception {
        String told = block(readme, "text", readme.indexOf("It prints:"));
        String printed = printed(block(readme, "java", 0));
        Probe.holds("the example prints\n" + printed + "told is\n" + told, printed.equals(told));
    }

    private static String printed(String source) throws Exception {
        Path place = Files.createTempDirectory("readme");
        Path file = place.resolve("Example.java");
        Files.writeString(file, source);
        int failed = ToolProvider.getSystemJavaCompiler().run(null, null, null,
            "-cp", System.getProperty("java.class.path"), "-d", place.toString(), file.toString());
        Probe.due("compiling the example", failed, 0);
        String printed = failed == 0 ? run(place) : "";
        remove(place);
        return printed;
    }

    private static String run(Path place) throws Exception {
        ByteArrayOutputStream bytes = new ByteArrayOutputStream();
        PrintStream before = System.out;
        System.setOut(new PrintStream(bytes, true, StandardCharsets.UTF_8));
        try (URLClassLoader loader = new URLClassLoader(new URL[] {place.toUri().toURL()})) {
            loader.loadClass("Example").getMethod("main", String[].class).invoke(null, (Object) new String[0]);
        } finally {
            System.setOut(before);
        }
        return bytes.toString(StandardCharsets.UTF_8).replace(System.lineSeparator(), "\n");
    }

    private static void remove(Path place) throws IOException {
        for (String name : place.toFile().list()) {
            Files.delete(place.resolve(name));
        }
        Files.delete(place);
    }

    /** The rows of the table of calls are those of the face, with as many parameters. */
    private static void calls(String readme) {
        Set<String> told = new TreeSet<>();
        Matcher row = Pattern.compile("(?m)^\\| `(\\w+)\\(([^)]*)\\)` \\| \\S").matcher(readme);
        while (row.find()) {
            int parameters = row.group(2).isEmpty() ? 0 : row.group(2).split(", ").length;
            told.add(row.group(1) + " " + parameters);
        }
        Set<String> due = new TreeSet<>(Set.of("ScheduleCheck 0"));
        for (var method : ScheduleCheck.class.getMethods()) {
            if (method.getDeclaringClass() == ScheduleCheck.class) {
                due.add(method.getName() + " " + method.getParameterCount());
            }
        }
        Probe.holds("README.md tells of " + told + ", due is " + due, told.equals(due));
    }
}
