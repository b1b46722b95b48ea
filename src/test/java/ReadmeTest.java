import java.io.IOException;
import java.lang.reflect.InvocationTargetException;
import java.lang.reflect.Method;
import java.lang.reflect.Modifier;
import java.net.MalformedURLException;
import java.net.URL;
import java.net.URLClassLoader;
import java.nio.file.Files;
import java.nio.file.Path;
import java.util.ArrayList;
import java.util.List;
import java.util.function.BiConsumer;
import java.util.regex.Matcher;
import java.util.regex.Pattern;
import java.util.stream.Stream;

/** What README.md says: its program gives the answers that stand behind its lines, all that it names is there. */
public final class ReadmeTest {
    private static final Pattern ANSWERED = Pattern.compile("\\s*(x\\.(\\w+)\\(.*\\)); +// (-?\\d+|true|false)(: .*)?");

    private ReadmeTest() { }

    public static void main(String[] args) throws IOException {
        Path project = Path.of(args.length > 0 ? args[0] : ".");
        List<String> readme = Files.readAllLines(project.resolve("README.md"));
        runExample(programOf(readme));
        lookAtCalls(String.join("\n", readme));
        lookAtTests(project, String.join("\n", readme));
        Check.end("ReadmeTest");
    }

    private static List<String> programOf(List<String> readme) {
        int begin = readme.indexOf("```java");
        Check.yes("README.md has a program", begin >= 0);
        List<String> rest = readme.subList(begin + 1, readme.size());
        return rest.subList(0, rest.indexOf("```"));
    }

    /** The program with each line that tells an answer turned into one that looks at it. */
    private static String lookingAt(List<String> program) {
        StringBuilder text = new StringBuilder();
        int answers = 0;
        for (String line : program) {
            Matcher told = ANSWERED.matcher(line);
            if (told.matches()) {
                answers++;
                String want = told.group(3);
                String call = told.group(1);
                text.append("README_LOOK.accept(\"").append(call).append("\", String.valueOf(").append(call);
                text.append(").equals(\"").append(want).append("\"));\n");
            } else {
                // A line with a comment that tells no answer would go by without being looked at.
                Check.no("an answer that is not looked at: " + line, line.contains("//"));
                text.append(line).append('\n');
            }
        }
        Check.yes("README.md tells answers", answers >= 20);
        String field = "public static java.util.function.BiConsumer<String, Boolean> README_LOOK;\n";
        int open = text.indexOf("{") + 1;
        return text.substring(0, open) + field + text.substring(open);
    }

    private static void runExample(List<String> program) throws IOException {
        Path place = Files.createTempDirectory("readme");
        Path source = place.resolve("Example.java");
        try {
            Files.writeString(source, lookingAt(program));
            int compiled = compile(source, place);
            Check.due("compiling the program of README.md", compiled, 0);
            if (compiled == 0) {
                call(place);
            }
        } finally {
            remove(place);
        }
    }

    private static int compile(Path source, Path into) throws IOException {
        Process javac = new ProcessBuilder("javac", "-cp", System.getProperty("java.class.path"), "-d", into.toString(),
            source.toString()).inheritIO().start();
        try {
            return javac.waitFor();
        } catch (InterruptedException e) {
            return -1;
        }
    }

    private static void call(Path place) throws IOException {
        try (URLClassLoader loader = new URLClassLoader(new URL[] {address(place)})) {
            Class<?> example = loader.loadClass("Example");
            BiConsumer<String, Boolean> look = (call, asDue) -> Check.yes("README.md: " + call, asDue);
            example.getField("README_LOOK").set(null, look);
            example.getMethod("main", String[].class).invoke(null, (Object) new String[0]);
        } catch (InvocationTargetException e) {
            Check.yes("README.md: the program threw " + e.getCause(), false);
        } catch (ReflectiveOperationException e) {
            Check.yes("README.md: the program can't be run: " + e, false);
        }
    }

    private static URL address(Path place) throws MalformedURLException {
        return place.toUri().toURL();
    }

    private static void remove(Path place) throws IOException {
        List<Path> found = new ArrayList<>();
        try (Stream<Path> all = Files.walk(place)) {
            all.forEach(found::add);
        }
        for (int i = found.size() - 1; i >= 0; i--) {
            Files.delete(found.get(i));
        }
    }

    private static void lookAtCalls(String readme) {
        for (Method m : PassHuts.class.getDeclaredMethods()) {
            if (Modifier.isPublic(m.getModifiers())) {
                Check.yes("README.md names " + m.getName(), readme.matches("(?s).*`" + m.getName() + "[`(].*"));
            }
        }
    }

    private static void lookAtTests(Path project, String readme) throws IOException {
        Path tests = project.resolve("src/test/java");
        List<Path> files;
        try (Stream<Path> all = Files.list(tests)) {
            files = all.toList();
        }
        for (Path file : files) {
            String name = file.getFileName().toString().replace(".java", "");
            boolean named = readme.contains("`" + name + "`");
            Check.yes("README.md names " + name, named || !name.endsWith("Test"));
        }
        Matcher named = Pattern.compile("`(?:src/test/java/)?([A-Z]\\w+)(?:\\.java)?`").matcher(readme);
        while (named.find()) {
            String name = named.group(1);
            boolean elsewhere = name.equals("Example") || name.equals("NONE") || name.equals("NoSuchElementException");
            Check.yes("there is " + name, elsewhere || Files.exists(tests.resolve(name + ".java")));
        }
        Check.yes(".ci/run can be run", Files.isExecutable(project.resolve(".ci/run")));
    }
}
