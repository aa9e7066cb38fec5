import java.io.IOException;
import java.lang.reflect.Method;
import java.lang.reflect.Modifier;
import java.net.URL;
import java.net.URLClassLoader;
import java.nio.file.Files;
import java.nio.file.Path;
import java.util.ArrayList;
import java.util.List;
import java.util.regex.Matcher;
import java.util.regex.Pattern;
import java.util.stream.Stream;
import javax.tools.ToolProvider;

/** README.md: what it shows of the class's use, and the commands it tells. Started at the project's root. */
public final class ReadmeTest {
    private static final Path README = Path.of("README.md");
    private static final Path OWN_TESTS = Path.of("src/test/java");
    private static final Path BUILD = Path.of("build/readme");
    private static final String RUN_ALL = ".ci/run";
    /** A call that is shown, and what it answers. */
    private static final Pattern SHOWN = Pattern.compile("(?s)((?:x\\.\\w+|tell)\\(.*\\));\\s*// (-?\\d+|true|false)\\b.*");
    private static final Due DUE = new Due();

    public static void main(String[] args) throws Exception {
        String readme = Files.readString(README);
        runShown(blocks(readme, "java"));
        showsEachCall(readme);
        runCommands(blocks(readme, "sh"));
        namesEachTest(readme);
        DUE.end();
    }

    private static List<String> blocks(String readme, String language) {
        List<String> all = new ArrayList<>();
        Matcher blocks = Pattern.compile("(?ms)^```" + language + "\\n(.*?)^```$").matcher(readme);
        while (blocks.find()) {
            all.add(blocks.group(1));
        }
        return all;
    }

    // ---- what is shown of the class's use ----

    /** Called by the program that is made of README.md. */
    public static void shown(String call, long got, long want) {
        DUE.is("README.md: " + call, got, want);
    }

    public static void shown(String call, boolean got, boolean want) {
        DUE.is("README.md: " + call, got, want);
    }

    private static void runShown(List<String> blocks) throws Exception {
        Files.createDirectories(BUILD);
        Path source = BUILD.resolve("Shown.java");
        Files.writeString(source, program(blocks));
        int faults = ToolProvider.getSystemJavaCompiler().run(null, null, null, "--release", "17",
            "-cp", System.getProperty("java.class.path"), "-d", BUILD.toString(), source.toString());
        DUE.is("README.md's use of the class compiles", faults, 0);
        if (faults == 0) {
            try (URLClassLoader loader = new URLClassLoader(new URL[] {BUILD.toUri().toURL()})) {
                loader.loadClass("Shown").getMethod("run").invoke(null);
            }
        }
    }

    /** A block that begins with a method's comment stands beside run(), all others within it. */
    private static String program(List<String> blocks) {
        StringBuilder methods = new StringBuilder();
        StringBuilder lines = new StringBuilder();
        for (String block : blocks) {
            if (block.startsWith("/**")) {
                methods.append(block);
            } else {
                statements(block).forEach(statement -> lines.append(asked(statement)).append('\n'));
            }
        }
        return "public final class Shown {\n" + methods + "public static void run() {\n" + lines + "}\n}\n";
    }

    /** The statements of a block, each with the comment behind it. */
    private static List<String> statements(String block) {
        List<String> all = new ArrayList<>();
        StringBuilder statement = new StringBuilder();
        for (String line : block.split("\n")) {
            if (line.isBlank() || line.startsWith("//")) {
                continue;
            }
            statement.append(line).append('\n');
            if (line.replaceFirst("\\s*//.*", "").endsWith(";")) {
                all.add(statement.toString());
                statement.setLength(0);
            }
        }
        return all;
    }

    private static String asked(String statement) {
        if (statement.startsWith("HomeGround x = ")) {
            return statement;
        }
        Matcher shown = SHOWN.matcher(statement);
        boolean hasAnswer = shown.matches();
        DUE.is("README.md says what it answers: " + statement, hasAnswer, true);
        if (!hasAnswer) {
            return "";
        }
        String want = shown.group(2).matches("-?\\d+") ? shown.group(2) + "L" : shown.group(2);
        String name = shown.group(1).replace("\\", "\\\\").replace("\"", "\\\"").replaceAll("\\s+", " ");
        return "ReadmeTest.shown(\"" + name + "\", " + shown.group(1) + ", " + want + ");";
    }

    private static void showsEachCall(String readme) {
        for (Method method : HomeGround.class.getDeclaredMethods()) {
            if (Modifier.isPublic(method.getModifiers())) {
                DUE.is("README.md shows " + method.getName(), readme.contains("\nx." + method.getName() + "("), true);
            }
        }
    }

    // ---- the commands ----

    /** Each block of commands but the one that runs all tests, which has started this one. */
    private static void runCommands(List<String> blocks) throws Exception {
        DUE.is("README.md tells how to run all tests", blocks.contains(RUN_ALL + "\n"), true);
        DUE.is(RUN_ALL + " can be run", Files.isExecutable(Path.of(RUN_ALL)), true);
        for (String block : blocks) {
            if (!block.equals(RUN_ALL + "\n")) {
                DUE.is("README.md's commands end well: " + block, ended(block), 0);
            }
        }
    }

    private static int ended(String commands) throws Exception {
        Process process = new ProcessBuilder("bash", "-e", "-c", commands).inheritIO().start();
        return process.waitFor();
    }

    private static void namesEachTest(String readme) throws IOException {
        try (Stream<Path> files = Files.list(OWN_TESTS)) {
            files.map(file -> file.getFileName().toString().replace(".java", "")).filter(name -> name.endsWith("Test"))
                .forEach(name -> DUE.is("README.md names " + name, readme.contains("`" + name + "`"), true));
        }
        Matcher names = Pattern.compile("`(\\w+Test)`").matcher(readme);
        while (names.find()) {
            DUE.is("there is a " + names.group(1), Files.exists(OWN_TESTS.resolve(names.group(1) + ".java")), true);
        }
    }
}
