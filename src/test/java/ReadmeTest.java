import java.io.ByteArrayOutputStream;
import java.io.PrintStream;
import java.lang.reflect.Method;
import java.lang.reflect.Modifier;
import java.net.URL;
import java.net.URLClassLoader;
import java.nio.charset.StandardCharsets;
import java.nio.file.Files;
import java.nio.file.Path;
import java.util.ArrayList;
import java.util.List;
import java.util.regex.Matcher;
import java.util.regex.Pattern;
import java.util.spi.ToolProvider;
import java.util.stream.Stream;

/** The example in README.md compiles with the class and answers as README.md says. */
public final class ReadmeTest {
    private static final String PRINTS = "System.out.println(";

    private ReadmeTest() {
    }

    public static void main(String[] args) throws Exception {
        String page = Files.readString(Path.of("README.md"));
        List<String> examples = blocks(page, "java");
        Check.due("examples in README.md", examples.size(), 1);
        for (String example : examples) {
            answersAsSaid(example);
        }
        tellsEachCall(page);
        tellsTheCommands(page);
        Check.end("ReadmeTest");
    }

    private static List<String> blocks(String page, String language) {
        List<String> found = new ArrayList<>();
        Matcher block = Pattern.compile("(?ms)^```" + language + "\\n(.*?)^```$").matcher(page);
        while (block.find()) {
            found.add(block.group(1));
        }
        return found;
    }

    private static void answersAsSaid(String example) throws Exception {
        List<String> said = new ArrayList<>();
        for (String line : example.split("\n")) {
            if (line.contains(PRINTS)) {
                Matcher answer = Pattern.compile(";\\s+// ([^:]+)(: .*)?$").matcher(line);
                boolean told = answer.find();
                Check.due("README.md says the answer of " + line.trim(), told ? 1 : 0, 1);
                said.add(told ? answer.group(1) : "?");
            }
        }
        Check.due("README.md says answers", said.isEmpty() ? 0 : 1, 1);
        List<String> printed = compiledAndRun(example);
        Check.due("lines that the example prints", printed.size(), said.size());
        for (int k = 0; k < Math.min(printed.size(), said.size()); k++) {
            boolean same = printed.get(k).equals(said.get(k));
            Check.due("line " + k + " of the example, '" + printed.get(k) + "', is as README.md says, '"
                    + said.get(k) + "'", same ? 1 : 0, 1);
        }
    }

    private static List<String> compiledAndRun(String example) throws Exception {
        Matcher name = Pattern.compile("public final class (\\w+)").matcher(example);
        if (!name.find()) {
            Check.due("the example is a class", 0, 1);
            return List.of();
        }
        Path room = Files.createTempDirectory("readme");
        try {
            Path file = room.resolve(name.group(1) + ".java");
            Files.writeString(file, example);
            ToolProvider javac = ToolProvider.findFirst("javac").orElseThrow();
            int exit = javac.run(System.out, System.err, "-Xlint:all", "-Werror", "-d", room.toString(),
                    "src/main/java/CardPasses.java", file.toString());
            Check.due("the example compiles with the class", exit, 0);
            return exit == 0 ? printedBy(room, name.group(1)) : List.of();
        } finally {
            remove(room);
        }
    }

    private static List<String> printedBy(Path room, String name) throws Exception {
        PrintStream usual = System.out;
        ByteArrayOutputStream printed = new ByteArrayOutputStream();
        // The example sees the class that was compiled with it, not the one on this test's own path.
        try (URLClassLoader loader = new URLClassLoader(new URL[] {room.toUri().toURL()},
                ClassLoader.getPlatformClassLoader())) {
            System.setOut(new PrintStream(printed, true, StandardCharsets.UTF_8));
            loader.loadClass(name).getMethod("main", String[].class).invoke(null, (Object) new String[0]);
        } finally {
            System.setOut(usual);
        }
        return printed.toString(StandardCharsets.UTF_8).lines().toList();
    }

    private static void remove(Path room) throws Exception {
        try (Stream<Path> files = Files.list(room)) {
            for (Path file : files.toList()) {
                Files.delete(file);
            }
        }
        Files.delete(room);
    }

    private static void tellsEachCall(String page) {
        int calls = 0;
        for (Method call : CardPasses.class.getDeclaredMethods()) {
            if (Modifier.isPublic(call.getModifiers())) {
                calls++;
                int many = call.getParameterCount();
                String parameters = many == 0 ? "" : "\\w+(, \\w+){" + (many - 1) + "}";
                Pattern line = Pattern.compile("(?m)^\\| `" + call.getName() + "\\(" + parameters + "\\)` \\| .+ \\|$");
                Check.due("README.md tells " + call.getName(), line.matcher(page).find() ? 1 : 0, 1);
            }
        }
        long lines = Pattern.compile("(?m)^\\| `\\w+\\([^)]*\\)` \\|").matcher(page).results().count();
        Check.due("README.md tells no other calls", lines, calls);
    }

    /** What README.md tells to type: the files that it names are there. */
    private static void tellsTheCommands(String page) {
        List<String> commands = blocks(page, "sh");
        Check.due("README.md tells how to run the tests", commands.contains(".ci/run\n") ? 1 : 0, 1);
        Check.due(".ci/run can be run", Files.isExecutable(Path.of(".ci/run")) ? 1 : 0, 1);
        Matcher test = Pattern.compile("(?m)^- `(\\w+Test)`").matcher(page);
        int told = 0;
        while (test.find()) {
            told++;
            Path file = Path.of("src/test/java", test.group(1) + ".java");
            Check.due(file + " is there", Files.exists(file) ? 1 : 0, 1);
        }
        Check.due("README.md tells of tests", told > 0 ? 1 : 0, 1);
    }
}
