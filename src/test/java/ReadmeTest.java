import java.io.IOException;
import java.io.InputStream;
import java.net.URL;
import java.net.URLClassLoader;
import java.nio.charset.StandardCharsets;
import java.nio.file.Files;
import java.nio.file.Path;
import java.util.ArrayList;
import java.util.Comparator;
import java.util.List;
import java.util.Set;
import java.util.TreeSet;
import java.util.regex.Matcher;
import java.util.regex.Pattern;
import java.util.stream.Collectors;
import java.util.stream.Stream;
import javax.tools.ToolProvider;

/** README.md: the calls that it shows compile and answer what it says; the command that it names runs the tests. */
public final class ReadmeTest {
    private static final Check check = new Check("ReadmeTest");
    private static final Path README = Path.of("README.md");
    private static final Path TESTS = Path.of("src/test/java");
    private static final String CLASS_FILE = "src/main/java/NicheSaints.java";
    private static final Pattern BLOCK = Pattern.compile("(?s)```java\n(.*?)```");
    private static final Pattern SAID = Pattern.compile("(x\\.(\\w+)\\(.*\\)); +// (-?\\d+|[A-Z]+)(:.*)?");
    private static final Pattern COMMAND = Pattern.compile("(?m)^ {4}(\\S.*)$");

    public static void main(String[] args) throws Exception {
        String readme = Files.readString(README);
        Path room = Files.createTempDirectory("readme");
        try {
            calls(blocks(readme), Files.createDirectory(room.resolve("calls")));
            names(readme);
            command(readme, room);
        } finally {
            clear(room);
        }
        check.end();
    }

    private static List<String> blocks(String readme) {
        List<String> lines = new ArrayList<>();
        Matcher matcher = BLOCK.matcher(readme);
        while (matcher.find()) {
            lines.addAll(matcher.group(1).lines().toList());
        }
        return lines;
    }

    // ---- the calls

    private static void calls(List<String> lines, Path room) throws Exception {
        List<String> said = new ArrayList<>();
        List<String> shown = new ArrayList<>();
        Set<String> methods = new TreeSet<>(Set.of("feed"));
        StringBuilder collecting = new StringBuilder();
        for (String line : lines) {
            Matcher matcher = SAID.matcher(line);
            if (matcher.matches()) {
                shown.add(matcher.group(1));
                methods.add(matcher.group(2));
                said.add(matcher.group(3));
                collecting.append("got.add(").append(matcher.group(1)).append(");\n");
            } else {
                check.holds("an answer is said for: " + line, !line.startsWith("x."));
                collecting.append(line).append('\n');
            }
        }
        check.holds("README.md shows calls", !said.isEmpty());
        check.holds("each call of the face is shown: " + methods, methods.equals(face()));
        List<?> got = run(String.join("\n", lines), collecting.toString(), room);
        check.due("answers", got.size(), said.size());
        for (int i = 0; i < Math.min(got.size(), said.size()); i++) {
            check.due(shown.get(i), (Integer) got.get(i), number(said.get(i)));
        }
    }

    private static Set<String> face() {
        return Stream.of(NicheSaints.class.getMethods())
                .filter(method -> method.getDeclaringClass() == NicheSaints.class)
                .map(method -> method.getName()).collect(Collectors.toCollection(TreeSet::new));
    }

    private static int number(String said) throws ReflectiveOperationException {
        return Character.isLetter(said.charAt(0)) ? NicheSaints.class.getField(said).getInt(null)
                : Integer.parseInt(said);
    }

    /** Compiles the calls as they stand, and once more so that their answers are kept; these answers. */
    private static List<?> run(String asShown, String collecting, Path room) throws Exception {
        Path file = room.resolve("Shown.java");
        Files.writeString(file, "public final class Shown {\n"
                + "public static void asShown() {\n" + asShown + "\n}\n"
                + "public static java.util.List<Integer> answers() {\n"
                + "java.util.List<Integer> got = new java.util.ArrayList<>();\n" + collecting
                + "return got;\n}\n}\n");
        int failed = ToolProvider.getSystemJavaCompiler().run(null, null, null, "-d", room.toString(),
                "-cp", System.getProperty("java.class.path"), file.toString());
        check.due("javac of the calls that README.md shows", failed, 0);
        if (failed != 0) {
            return List.of();
        }
        try (URLClassLoader loader = new URLClassLoader(new URL[] {room.toUri().toURL()})) {
            Class<?> compiled = loader.loadClass("Shown");
            compiled.getMethod("asShown").invoke(null);
            return (List<?>) compiled.getMethod("answers").invoke(null);
        }
    }

    // ---- the tests

    private static void names(String readme) throws IOException {
        Set<String> told = new TreeSet<>();
        Matcher matcher = Pattern.compile("(?m)^\\| (\\w+Test) \\|").matcher(readme);
        while (matcher.find()) {
            check.holds(matcher.group(1) + " is told once", told.add(matcher.group(1)));
        }
        try (Stream<Path> files = Files.list(TESTS)) {
            Set<String> there = files.map(file -> file.getFileName().toString())
                    .filter(name -> name.endsWith("Test.java"))
                    .map(name -> name.substring(0, name.length() - ".java".length()))
                    .collect(Collectors.toCollection(TreeSet::new));
            check.holds("the tests that are told are those that are there: " + there, told.equals(there));
        }
    }

    private static void command(String readme, Path room) throws Exception {
        String section = readme.substring(Math.max(0, readme.indexOf("\n## Tests\n")));
        Matcher matcher = COMMAND.matcher(section);
        boolean named = matcher.find();
        check.holds("a command is named under Tests", named);
        if (!named) {
            return;
        }
        String command = matcher.group(1);
        check.holds("no other command is named", !matcher.find());
        check.holds("it is the one that CI runs: " + command, command.equals(".ci/run"));
        boolean runs = Files.isExecutable(Path.of(command));
        check.holds("it is a script of the project: " + command, runs);
        if (runs) {
            inSmallProjects(command, room);
        }
    }

    /** Runs the named command in small projects of two tests each, as the whole project would run this test anew. */
    private static void inSmallProjects(String command, Path room) throws Exception {
        String good = "System.out.println(\"answers \" + new NicheSaints().status());";
        String bad = good + " System.exit(1);";
        check.due("both tests pass", ended(command, room.resolve("a"), good, good), 0);
        check.due("a test of the project fails", ended(command, room.resolve("b"), bad, good), 1);
        check.due("a shared test fails", ended(command, room.resolve("c"), good, bad), 1);
        check.due("a shared test can't be compiled", ended(command, room.resolve("d"), good, "nothing"), 1);
        check.due("a test of the project can't be compiled", ended(command, room.resolve("e"), "nothing", good), 1);
        check.due("there is no ../shared", ended(command, room.resolve("f"), good, null), 1);
    }

    private static int ended(String command, Path room, String project, String shared) throws Exception {
        Path main = room.resolve("main");
        copy(Path.of(command), main.resolve(command));
        copy(Path.of(CLASS_FILE), main.resolve(CLASS_FILE));
        write(main.resolve(TESTS).resolve("OwnTest.java"), "OwnTest", project);
        if (shared != null) {
            write(room.resolve("shared/tests/SharedRuns.java"), "SharedRuns", shared);
        }
        Process process = new ProcessBuilder(command).directory(main.toFile()).redirectErrorStream(true).start();
        process.getOutputStream().close();
        String printed;
        try (InputStream in = process.getInputStream()) {
            printed = new String(in.readAllBytes(), StandardCharsets.UTF_8);
        }
        int code = process.waitFor();
        if (project.contains("answers") && shared != null && shared.contains("answers")) {
            check.due("tests that were run: " + printed, printed.split("answers 0", -1).length - 1, 2);
        }
        return code;
    }

    private static void write(Path file, String name, String body) throws IOException {
        Files.createDirectories(file.getParent());
        Files.writeString(file, "public final class " + name
                + " {\npublic static void main(String[] args) {\n" + body + "\n}\n}\n");
    }

    private static void copy(Path from, Path to) throws IOException {
        Files.createDirectories(to.getParent());
        Files.copy(from, to);
        to.toFile().setExecutable(Files.isExecutable(from));
    }

    private static void clear(Path room) throws IOException {
        try (Stream<Path> all = Files.walk(room)) {
            for (Path path : all.sorted(Comparator.reverseOrder()).toList()) {
                Files.delete(path);
            }
        }
    }
}
