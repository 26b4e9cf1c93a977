import java.io.IOException;
import java.lang.reflect.Method;
import java.lang.reflect.Modifier;
import java.net.URL;
import java.net.URLClassLoader;
import java.nio.file.Files;
import java.nio.file.Path;
import java.util.ArrayList;
import java.util.Comparator;
import java.util.List;
import java.util.regex.Matcher;
import java.util.regex.Pattern;
import java.util.stream.Stream;
import javax.tools.JavaCompiler;
import javax.tools.ToolProvider;

/** What README.md shows of the use compiles and answers as README.md says, and it tells of each call and each test. */
public final class ReadmeTest {
    private static final Path README = Path.of("README.md");
    private static final Path TESTS = Path.of("src/test/java");
    private static final String PROGRAM = "ReadmeUse";
    private static final Pattern BLOCK = Pattern.compile("(?ms)^```(\\w+)\n(.*?)^```$");
    private static final Pattern CALL = Pattern.compile("^(?:int (\\w+) = )?(room\\.\\w+\\(.*\\));(.*)$");
    private static final Pattern TOLD = Pattern.compile("^ +// (-?\\d+)(?::? .*)?$");

    private final StringBuilder inside = new StringBuilder();
    private final StringBuilder beside = new StringBuilder();
    private final List<String> calls = new ArrayList<>();
    private final List<Long> told = new ArrayList<>();

    private ReadmeTest() {
    }

    public static void main(String[] args) throws IOException, ReflectiveOperationException {
        String page = Files.readString(README);
        new ReadmeTest().use(page);
        tests(page);
        Check.close("ReadmeTest");
    }

    private void use(String page) throws IOException, ReflectiveOperationException {
        Matcher blocks = BLOCK.matcher(page);
        while (blocks.find()) {
            if (blocks.group(1).equals("java")) {
                take(blocks.group(2));
            }
        }
        everyCallIsShown();
        List<Long> answers = run();
        Check.due("answers of the page's program", answers.size(), told.size());
        for (int i = 0; i < Math.min(answers.size(), told.size()); i++) {
            Check.due("README.md: " + calls.get(i), answers.get(i), told.get(i));
        }
    }

    /** A block of a method stands beside the program's lines, all others are among them. */
    private void take(String block) {
        if (block.startsWith("static ")) {
            beside.append(block);
            return;
        }
        for (String line : block.split("\n")) {
            Matcher call = CALL.matcher(line);
            if (!call.matches()) {
                inside.append(line).append('\n');
                continue;
            }
            Matcher number = TOLD.matcher(call.group(3));
            Check.so("README.md tells what this answers: " + line, number.matches());
            if (number.matches()) {
                calls.add(call.group(2));
                told.add(Long.parseLong(number.group(1)));
                inside.append(asking(call.group(1), call.group(2)));
            }
        }
    }

    private static String asking(String name, String call) {
        String kept = "answers.add((long) ";
        return name == null ? kept + call + ");\n" : "int " + name + " = " + call + ";\n" + kept + name + ");\n";
    }

    private void everyCallIsShown() {
        for (Method m : SteamNations.class.getDeclaredMethods()) {
            if (Modifier.isPublic(m.getModifiers())) {
                String start = "room." + m.getName() + "(";
                Check.so("README.md shows " + m.getName(), calls.stream().anyMatch(c -> c.startsWith(start)));
            }
        }
    }

    private List<Long> run() throws IOException, ReflectiveOperationException {
        List<Long> answers = new ArrayList<>();
        Path folder = Files.createTempDirectory("readme");
        try {
            if (compiles(folder)) {
                try (URLClassLoader loader = new URLClassLoader(new URL[] {folder.toUri().toURL()})) {
                    loader.loadClass(PROGRAM).getMethod("run", List.class).invoke(null, answers);
                }
            }
        } finally {
            remove(folder);
        }
        return answers;
    }

    private boolean compiles(Path folder) throws IOException {
        Path source = folder.resolve(PROGRAM + ".java");
        Files.writeString(source, "public final class " + PROGRAM + " {\n"
                + "public static void run(java.util.List<Long> answers) {\n" + inside + "}\n" + beside + "}\n");
        JavaCompiler compiler = ToolProvider.getSystemJavaCompiler();
        Check.so("there is a compiler", compiler != null);
        String path = System.getProperty("java.class.path");
        boolean well = compiler != null
                && compiler.run(null, null, null, "-cp", path, "-d", folder.toString(), source.toString()) == 0;
        Check.so("what README.md shows compiles", well);
        return well;
    }

    private static void remove(Path folder) throws IOException {
        try (Stream<Path> all = Files.walk(folder)) {
            for (Path path : all.sorted(Comparator.reverseOrder()).toList()) {
                Files.delete(path);
            }
        }
    }

    private static void tests(String page) throws IOException {
        Check.so("README.md tells how to run the tests", page.contains("```sh\n.ci/run\n```"));
        Check.so(".ci/run can be run", Files.isExecutable(Path.of(".ci/run")));
        try (Stream<Path> files = Files.list(TESTS)) {
            for (Path file : files.toList()) {
                String name = file.getFileName().toString().replace(".java", "");
                Check.so("README.md tells of " + name, !name.endsWith("Test") || page.contains("- `" + name + "`: "));
            }
        }
        Matcher names = Pattern.compile("`(\\w+(?:Test|Boundaries|Model))`").matcher(page);
        while (names.find()) {
            Check.so("there is a " + names.group(1), Files.exists(TESTS.resolve(names.group(1) + ".java")));
        }
    }
}
