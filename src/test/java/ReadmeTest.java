import java.io.File;
import java.io.IOException;
import java.lang.reflect.Method;
import java.lang.reflect.Modifier;
import java.nio.file.Files;
import java.nio.file.Path;
import java.nio.file.attribute.PosixFilePermission;
import java.util.ArrayList;
import java.util.Comparator;
import java.util.List;
import java.util.TreeSet;
import java.util.regex.Matcher;
import java.util.regex.Pattern;
import java.util.stream.Stream;

/**
 * What README.md says: its examples, compiled as they stand there and asked for the answers behind them; its ways to
 * run the tests; the names that it names. And that .ci/run, which it tells to run, fails where something fails.
 */
public final class ReadmeTest {
    private static final Check CHECK = new Check();
    private static final String MADE = "RoundMaps maps = new RoundMaps();";
    private static final Pattern CALL = Pattern.compile("(.+\\)); *// (-?\\d+|true|false|NoSuchElementException)"
        + "( \\[([-\\d, ]*)\\])?(: .+)?");
    private static final String SAID = "said.txt";
    private static final String[] FEW = {"Check.java", "State.java", "MapsTest.java"};

    public static void main(String[] args) throws Exception {
        List<String> lines = Files.readAllLines(Path.of("README.md"));
        Path room = Files.createTempDirectory("readme");
        try {
            examples(lines, room);
            names(String.join("\n", lines));
            waysToRunTests(lines, room);
            runFails(room);
        } finally {
            remove(room);
        }
        CHECK.end();
    }

    // ---- the examples

    private static void examples(List<String> lines, Path room) throws Exception {
        List<List<String>> blocks = blocks(lines, "java");
        CHECK.is("README.md has examples", blocks.size() > 1, true);
        StringBuilder code = new StringBuilder("public final class Example {\n");
        StringBuilder main = new StringBuilder("public static void main(String[] args) {\nCheck check = new Check();\n");
        for (int i = 0; i < blocks.size(); i++) {
            if (blocks.get(i).get(0).startsWith("static ")) {
                code.append(String.join("\n", blocks.get(i))).append('\n');
            } else {
                code.append("static void block").append(i).append("(Check check) {\n").append(asked(blocks.get(i))).append("}\n");
                main.append("block").append(i).append("(check);\n");
            }
        }
        Path file = room.resolve("Example.java");
        Files.writeString(file, code.append(main).append("check.end();\n}\n}\n"));
        String classes = classPath();
        works("README.md: its examples compile", room, "javac", "-cp", classes, "-d", "examples", "Example.java");
        works("README.md: its examples answer as they say", room, "java", "-cp", classes + File.pathSeparator + "examples",
            "Example");
    }

    /** A block's code with each call asked for what stands behind it; each call has to tell its answer. */
    private static String asked(List<String> block) {
        StringBuilder code = new StringBuilder();
        for (String line : block) {
            Matcher call = CALL.matcher(line);
            if (line.equals(MADE)) {
                code.append(line).append('\n');
            } else if (call.matches()) {
                code.append(asked(call));
            } else {
                CHECK.same("README.md", line, "a call with its answer");
            }
        }
        return code.toString();
    }

    private static String asked(Matcher call) {
        String text = call.group(1);
        String name = "\"README.md: " + text.replace("\"", "\\\"") + "\"";
        if (call.group(2).equals("NoSuchElementException")) {
            CHECK.is(text + " is row", text.startsWith("maps.row("), true);
            return "check.throwsNone(" + name + ", maps, " + text.substring("maps.row(".length()) + ";\n";
        }
        String row = call.group(3) == null ? "" : "check.row(" + name + ", maps"
            + (call.group(4).isEmpty() ? "" : ", " + call.group(4)) + ");\n";
        return "check.is(" + name + ", " + text + ", " + call.group(2) + ");\n" + row;
    }

    // ---- the names

    private static void names(String text) throws IOException {
        String examples = text.substring(0, text.indexOf("## How it is built"));
        for (Method method : RoundMaps.class.getDeclaredMethods()) {
            if (Modifier.isPublic(method.getModifiers())) {
                CHECK.is("README.md: its examples call " + method.getName(),
                    examples.contains("maps." + method.getName() + "("), true);
            }
        }
        TreeSet<String> classes = new TreeSet<>(List.of("RoundMaps"));
        for (Class<?> inside : RoundMaps.class.getDeclaredClasses()) {
            classes.add(inside.getSimpleName());
        }
        try (Stream<Path> files = Files.list(Path.of("src/test/java"))) {
            files.map(file -> file.getFileName().toString().replace(".java", ""))
                .filter(name -> !name.equals("Check")).forEach(classes::add);
        }
        TreeSet<String> named = new TreeSet<>();
        Matcher word = Pattern.compile("`([A-Z][a-z]\\w*)`").matcher(text.substring(text.indexOf("## How it is built")));
        while (word.find()) {
            named.add(word.group(1));
        }
        CHECK.same("README.md: the classes that it names", named.toString(), classes.toString());
    }

    // ---- how to run the tests

    /** What README.md tells to run, in copies: .ci/run with few tests (or it would go round for ever), the rest with all. */
    private static void waysToRunTests(List<String> lines, Path room) throws Exception {
        Path whole = copy(room.resolve("whole"), null);
        int ways = 0;
        for (List<String> block : blocks(lines, "sh")) {
            for (String command : block) {
                if (command.equals(".ci/run")) {
                    runPasses(copy(room.resolve("few"), FEW));
                } else {
                    works("README.md: " + command, whole, "sh", "-c", command);
                }
                ways++;
            }
        }
        CHECK.is("README.md: ways to run the tests", ways, 3);
    }

    /** By sh, since a machine may let nothing be started by its name where the copies are. */
    private static void runPasses(Path at) throws Exception {
        CHECK.is("README.md: .ci/run is a command",
            Files.getPosixFilePermissions(Path.of(".ci/run")).contains(PosixFilePermission.OWNER_EXECUTE), true);
        works("README.md: .ci/run", at, "sh", ".ci/run");
        CHECK.same("README.md: the end of .ci/run", lastLine(at), "all tests pass");
    }

    private static void runFails(Path room) throws Exception {
        Path shared = copy(room.resolve("shared fails"), FEW);
        Files.writeString(shared.resolve("../shared/tests/LastRuns.java"), test("LastRuns", "new RoundMaps().map() == 0"));
        fails("a test under ../shared/tests fails", shared);

        Path foreign = copy(room.resolve("shared does not compile"), FEW);
        Files.writeString(foreign.resolve("../shared/tests/LastRuns.java"), test("LastRuns", "new RoundMaps().none()"));
        fails("a test under ../shared/tests can't be compiled", foreign);

        Path none = copy(room.resolve("none shared"), FEW);
        Files.delete(none.resolve("../shared/tests/FirstRuns.java"));
        fails("there is no test under ../shared/tests", none);

        Path own = copy(room.resolve("own fails"), FEW);
        Files.writeString(own.resolve("src/test/java/AheadTest.java"), test("AheadTest", "new RoundMaps().map() == 0"));
        fails("a test of the project fails", own);

        Path broken = copy(room.resolve("class is broken"), FEW);
        Path main = broken.resolve("src/main/java/RoundMaps.java");
        Files.writeString(main, Files.readString(main).replace("return 1;", "return 0;"));
        put(Path.of("src/test/java/SetsTest.java"), broken.resolve("src/test/java/SetsTest.java"));
        fails("the class answers otherwise", broken);
    }

    private static void fails(String why, Path at) throws Exception {
        CHECK.is(".ci/run ends with 0, if " + why, run(at, "sh", ".ci/run") == 0, false);
        CHECK.is(".ci/run says that all tests pass, if " + why, lastLine(at).equals("all tests pass"), false);
    }

    /** A test as they stand under ../shared/tests, which passes if something is so. */
    private static String test(String name, String so) {
        return "public final class " + name + " {\n  public static void main(String[] args) {\n    if (!(" + so
            + ")) {\n      System.out.println(\"not so\");\n      System.exit(1);\n    }\n  }\n}\n";
    }

    // ---- copies of the project, and what is run in them

    /** The project with some of its tests (or, for null, with all), and a directory ../shared with one short test. */
    private static Path copy(Path at, String[] tests) throws IOException {
        Path main = at.resolve("main");
        put(Path.of(".ci/run"), main.resolve(".ci/run"));
        put(Path.of("src/main/java/RoundMaps.java"), main.resolve("src/main/java/RoundMaps.java"));
        List<String> names = new ArrayList<>();
        if (tests != null) {
            names.addAll(List.of(tests));
        } else {
            try (Stream<Path> files = Files.list(Path.of("src/test/java"))) {
                files.forEach(file -> names.add(file.getFileName().toString()));
            }
        }
        for (String name : names) {
            put(Path.of("src/test/java", name), main.resolve("src/test/java").resolve(name));
        }
        Path shared = Files.createDirectories(at.resolve("shared/tests"));
        Files.writeString(shared.resolve("FirstRuns.java"), test("FirstRuns", "new RoundMaps().map() == -1"));
        return main;
    }

    private static void put(Path from, Path to) throws IOException {
        Files.createDirectories(to.getParent());
        Files.write(to, Files.readAllBytes(from));
    }

    /** Runs a command with all that it says in a file: its exit code. */
    private static int run(Path at, String... command) throws Exception {
        return new ProcessBuilder(command).directory(at.toFile()).redirectErrorStream(true)
            .redirectOutput(at.resolve(SAID).toFile()).start().waitFor();
    }

    /** Runs a command that is due to end with 0; what it said is shown, if it does not. */
    private static void works(String what, Path at, String... command) throws Exception {
        int code = run(at, command);
        CHECK.is(what, code, 0);
        if (code != 0) {
            System.out.println(Files.readString(at.resolve(SAID)));
        }
    }

    private static String lastLine(Path at) throws IOException {
        List<String> said = Files.readAllLines(at.resolve(SAID));
        return said.isEmpty() ? "" : said.get(said.size() - 1);
    }

    /** Where this test's classes are, as seen from another directory. */
    private static String classPath() {
        List<String> all = new ArrayList<>();
        for (String part : System.getProperty("java.class.path").split(File.pathSeparator)) {
            all.add(Path.of(part).toAbsolutePath().toString());
        }
        return String.join(File.pathSeparator, all);
    }

    /** The blocks of README.md that are told to be of a language, without empty lines. */
    private static List<List<String>> blocks(List<String> lines, String language) {
        List<List<String>> blocks = new ArrayList<>();
        List<String> open = null;
        for (String line : lines) {
            if (open == null && line.equals("```" + language)) {
                open = new ArrayList<>();
            } else if (open != null && line.equals("```")) {
                blocks.add(open);
                open = null;
            } else if (open != null && !line.isEmpty()) {
                open.add(line);
            }
        }
        return blocks;
    }

    private static void remove(Path room) throws IOException {
        List<Path> all = new ArrayList<>();
        try (Stream<Path> files = Files.walk(room)) {
            files.sorted(Comparator.reverseOrder()).forEach(all::add);
        }
        for (Path each : all) {
            Files.delete(each);
        }
    }
}
