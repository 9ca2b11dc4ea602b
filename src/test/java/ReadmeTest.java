import java.io.IOException;
import java.lang.reflect.Method;
import java.lang.reflect.Modifier;
import java.nio.file.Files;
import java.nio.file.Path;
import java.util.Comparator;
import java.util.List;
import java.util.regex.Matcher;
import java.util.regex.Pattern;
import java.util.stream.Collectors;
import java.util.stream.Stream;

/** README.md does what it says: its examples run as they stand, and its tables have what the document has. */
public final class ReadmeTest {
    private static final Pattern BLOCK = Pattern.compile("```(\\w+)\n(.*?)```", Pattern.DOTALL);
    private static final Pattern CLASS = Pattern.compile("public final class (\\w+)");
    private static final Pattern PROMISE = Pattern.compile("## Promise \\d+: (\\w+)\n\n`[^`]*`: ([^\n]*)");
    private static final List<String> TOLD_APART = List.of("NONE", "-2", "true", "false", "Integer.MIN_VALUE",
        "IndexOutOfBoundsException", "NoSuchElementException", "LAW 7", "700", "0 .. 6");

    private ReadmeTest() { }

    public static void main(String[] args) throws IOException, InterruptedException {
        Checks checks = new Checks();
        String readme = Files.readString(Path.of("README.md"));
        Path room = Files.createTempDirectory("readme");
        try {
            copy(Path.of("src").toRealPath(), room.resolve("main/src"));
            copy(Path.of("../shared").toRealPath(), room.resolve("shared"));
            runExamples(checks, readme, room.resolve("main"));
        } finally {
            remove(room);
        }
        checkAnswers(checks, readme, Files.readString(Path.of("../shared/DOC.md")));
        checkTests(checks, readme);
        checks.end();
    }

    /** A program is saved under its name; lines for the shell are run, and print what stands right behind them. */
    private static void runExamples(Checks checks, String readme, Path room) throws IOException, InterruptedException {
        String printed = "";
        int programs = 0;
        int printouts = 0;
        Matcher blocks = BLOCK.matcher(readme);
        while (blocks.find()) {
            String body = blocks.group(2);
            switch (blocks.group(1)) {
                case "java":
                    Matcher named = CLASS.matcher(body);
                    checks.due("a program has a name: " + body, named.find(), true);
                    Files.writeString(room.resolve(named.group(1) + ".java"), body);
                    programs++;
                    break;
                case "sh":
                    // That one runs this very test.
                    printed = body.contains(".ci/run") ? "" : run(checks, body, room);
                    break;
                case "text":
                    checks.due("README says [" + body + "], printed is [" + printed + "]", printed.equals(body), true);
                    printouts++;
                    break;
                default:
                    checks.due("a block of " + blocks.group(1), true, false);
            }
        }
        checks.due("programs that print something", programs > 0 && printouts >= programs, true);
    }

    private static String run(Checks checks, String lines, Path room) throws IOException, InterruptedException {
        Process shell = new ProcessBuilder("/bin/sh", "-e", "-c", lines)
            .directory(room.toFile()).redirectErrorStream(true).start();
        shell.getOutputStream().close();
        String printed = new String(shell.getInputStream().readAllBytes());
        int code = shell.waitFor();
        checks.due("exit code of [" + lines + "] that printed [" + printed + "]", code, 0);
        return printed;
    }

    /** Each call has a row, and the row says NONE, -2 and so on where the promise does, and nowhere else. */
    private static void checkAnswers(Checks checks, String readme, String document) {
        int promises = 0;
        Matcher promise = PROMISE.matcher(document);
        while (promise.find()) {
            promises++;
            String name = promise.group(1);
            String row = rowOf(readme, name);
            checks.due(name + " has a row", row.isEmpty(), false);
            for (String answer : TOLD_APART) {
                boolean said = answer.equals("NONE") ? saysNone(row) : row.contains(answer);
                checks.due("the row of " + name + " says " + answer, said, promise.group(2).contains(answer));
            }
        }
        checks.due("promises of calls", promises, publicMethods());
    }

    private static String rowOf(String readme, String name) {
        return readme.lines().filter(line -> line.startsWith("| `" + name + "(")).collect(Collectors.joining());
    }

    private static boolean saysNone(String row) {
        String[] cells = row.split("\\|", -1);
        return row.contains("NONE") || cells.length != 6 || !cells[3].isBlank();
    }

    private static int publicMethods() {
        int methods = 0;
        for (Method method : RiverDrains.class.getDeclaredMethods()) {
            methods += Modifier.isPublic(method.getModifiers()) ? 1 : 0;
        }
        return methods;
    }

    private static void checkTests(Checks checks, String readme) throws IOException {
        try (Stream<Path> files = Files.list(Path.of("src/test/java"))) {
            for (Path file : files.toList()) {
                String name = file.getFileName().toString().replace(".java", "");
                if (name.endsWith("Test")) {
                    checks.due("README names " + name, readme.contains("| `" + name + "` |"), true);
                }
            }
        }
    }

    private static void copy(Path from, Path to) throws IOException {
        try (Stream<Path> all = Files.walk(from)) {
            for (Path each : all.toList()) {
                Path copied = to.resolve(from.relativize(each).toString());
                if (Files.isDirectory(each)) {
                    Files.createDirectories(copied);
                } else {
                    Files.copy(each, copied);
                }
            }
        }
    }

    private static void remove(Path room) throws IOException {
        try (Stream<Path> all = Files.walk(room)) {
            for (Path each : all.sorted(Comparator.reverseOrder()).toList()) {
                Files.delete(each);
            }
        }
    }
}
