import java.io.IOException;
import java.nio.file.Files;
import java.nio.file.Path;
import java.util.ArrayList;
import java.util.List;
import java.util.Set;
import java.util.TreeSet;
import java.util.regex.Matcher;
import java.util.regex.Pattern;
import java.util.stream.Stream;

/**
 * Holds README.md to what it shows (promises 1 to 48, as far as its example goes): its Java lines are compiled and run as
 * one example, each call against the number behind it; its commands are run; the tests that it names are those there are.
 */
public final class ReadmeTest {
    private static final Path README = Path.of("README.md");
    private static final Path TESTS = Path.of("src/test/java");
    private static final Pattern ANSWERED = Pattern.compile("(?:int (\\w+) = )?(moor\\.\\w+\\(.*\\));\\s+// (-?\\d+)(?:: .*)?");
    private static final Pattern NAMED = Pattern.compile("`(\\w+(?:Test|Edges)|PlainFinger|Checks)`");
    private static final String[] EXAMPLE_HEAD = {
        "public final class ReadmeExample {",
        "static int wrong = 0;",
        "static void due(int line, long got, long want) {",
        "if (got != want) { wrong++; System.out.println(\"README.md, line \" + line + \": \" + got + \", told is \" + want); }",
        "}",
        "public static void main(String[] args) {"};
    private static final String[] EXAMPLE_END = {"System.exit(wrong == 0 ? 0 : 1);", "}", "}"};
    private static int wrong = 0;

    private static void must(boolean holds, String what) {
        if (!holds) {
            wrong++;
            System.out.println("README.md: " + what);
        }
    }

    public static void main(String[] args) throws Exception {
        List<String> readme = Files.readAllLines(README);
        Path room = Files.createTempDirectory("readme");
        try {
            runExample(readme, room);
        } finally {
            removeAll(room);
        }
        runCommands(readme);
        namesOfTests(readme);
        System.out.println(wrong == 0 ? "README.md is true" : wrong + " places of README.md are not true");
        System.exit(wrong == 0 ? 0 : 1);
    }

    private static void runExample(List<String> readme, Path room) throws Exception {
        List<String> code = new ArrayList<>(List.of(EXAMPLE_HEAD));
        int answers = 0;
        for (int line : linesOf(readme, "java")) {
            String shown = readme.get(line - 1);
            Matcher m = ANSWERED.matcher(shown);
            if (m.matches()) {
                answers++;
                code.add(asCheck(line, m));
            } else {
                // Only what stands inside a loop goes without an answer.
                must(!shown.startsWith("moor.") && !shown.contains("= moor."), "line " + line + " tells no answer");
                code.add(shown);
            }
        }
        code.addAll(List.of(EXAMPLE_END));
        must(answers > 0, "it shows no answer");
        Path source = room.resolve("ReadmeExample.java");
        Files.write(source, code);
        String classes = System.getProperty("java.class.path");
        boolean compiled = run("javac", "-cp", classes, "-d", room.toString(), source.toString()) == 0;
        must(compiled, "its example does not compile");
        must(compiled && run("java", "-cp", classes + java.io.File.pathSeparator + room, "ReadmeExample") == 0,
                "its example does not answer as told");
    }

    private static String asCheck(int line, Matcher m) {
        if (m.group(1) == null) {
            return "due(" + line + ", " + m.group(2) + ", " + m.group(3) + "L);";
        }
        return "int " + m.group(1) + " = " + m.group(2) + "; due(" + line + ", " + m.group(1) + ", " + m.group(3) + "L);";
    }

    /** But for .ci/run itself, which runs this test. */
    private static void runCommands(List<String> readme) throws Exception {
        StringBuilder commands = new StringBuilder("set -e\n");
        boolean tellsRun = false;
        for (int line : linesOf(readme, "sh")) {
            String command = readme.get(line - 1);
            if (command.equals(".ci/run")) {
                tellsRun = true;
            } else {
                commands.append(command).append('\n');
            }
        }
        must(tellsRun && Files.isExecutable(Path.of(".ci/run")), ".ci/run is not told, or can't be run");
        must(run("sh", "-c", commands.toString()) == 0, "its commands fail");
    }

    private static void namesOfTests(List<String> readme) throws IOException {
        Set<String> named = new TreeSet<>();
        Matcher m = NAMED.matcher(String.join("\n", readme));
        while (m.find()) {
            named.add(m.group(1));
        }
        Set<String> there = new TreeSet<>();
        try (Stream<Path> files = Files.list(TESTS)) {
            files.forEach(file -> there.add(file.getFileName().toString().replace(".java", "")));
        }
        must(named.equals(there), "it names " + named + ", there are " + there);
    }

    /** The numbers (from 1) of the lines inside the blocks of a language. */
    private static List<Integer> linesOf(List<String> readme, String language) {
        List<Integer> lines = new ArrayList<>();
        boolean inside = false;
        for (int i = 0; i < readme.size(); i++) {
            if (readme.get(i).startsWith("```")) {
                inside = !inside && readme.get(i).equals("```" + language);
            } else if (inside) {
                lines.add(i + 1);
            }
        }
        return lines;
    }

    private static int run(String... command) throws Exception {
        return new ProcessBuilder(command).inheritIO().start().waitFor();
    }

    private static void removeAll(Path room) throws IOException {
        try (Stream<Path> files = Files.list(room)) {
            for (Path file : files.toList()) {
                Files.delete(file);
            }
        }
        Files.delete(room);
    }
}
