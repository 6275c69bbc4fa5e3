import java.io.IOException;
import java.lang.reflect.Method;
import java.lang.reflect.Modifier;
import java.nio.file.Files;
import java.nio.file.Path;
import java.util.ArrayList;
import java.util.List;
import java.util.concurrent.TimeUnit;
import java.util.stream.Stream;

/** README.md: its program and its commands run as they stand there, and nothing that there is goes untold. */
public final class ReadmeTest extends Due {
    private static final String PROGRAM = "Evening";
    private static final String SHARED_TESTS = "../shared/tests/";
    private static final int MOST_SECONDS = 300;

    public static void main(String[] args) throws Exception {
        String readme = read("README.md");
        holds("there is a README.md", !readme.isEmpty());
        commands(readme);
        calls(readme);
        tests(readme);
        end("the README");
    }

    /** They run in a folder like this one, so that nothing is left in this one. */
    private static void commands(String readme) throws Exception {
        run = "a command";
        Path above = Files.createTempDirectory("readme");
        Path folder = Files.createDirectory(above.resolve("main"));
        Files.createSymbolicLink(above.resolve("shared"), Path.of("../shared").toRealPath());
        Files.createSymbolicLink(folder.resolve("src"), Path.of("src").toRealPath());
        Files.writeString(folder.resolve(PROGRAM + ".java"), block(readme, "java"));
        int ran = 0;
        for (String command : commandsOf(readme)) {
            if (command.equals(".ci/run")) {
                // This test runs in it.
                holds(command + " can be run", Files.isExecutable(Path.of(command)));
            } else if (isThere(command)) {
                String printed = printedBy(command, folder);
                if (command.endsWith(" " + PROGRAM)) {
                    holds("it prints what README.md shows, but it printed:\n" + printed, printed.equals(block(readme, "text")));
                }
                ran++;
            }
        }
        holds("there are commands", ran >= 4);
        remove(above);
    }

    private static String block(String readme, String kind) {
        int start = readme.indexOf("```" + kind + "\n");
        int end = start < 0 ? -1 : readme.indexOf("\n```\n", start);
        holds("there is a block of " + kind, end >= 0);
        return end < 0 ? "" : readme.substring(start + kind.length() + 4, end + 1);
    }

    private static List<String> commandsOf(String readme) {
        List<String> commands = new ArrayList<>();
        boolean isInBlock = false;
        for (String line : readme.split("\n")) {
            isInBlock = isInBlock != line.startsWith("```");
            if (!isInBlock && line.startsWith("    ")) {
                commands.add(line.strip());
            }
        }
        return commands;
    }

    /** The shared tests are not the project's own: another name of theirs is no fault here. */
    private static boolean isThere(String command) {
        for (String word : command.split(" ")) {
            if (word.startsWith(SHARED_TESTS) && !Files.exists(Path.of(word))) {
                return false;
            }
        }
        return true;
    }

    private static String printedBy(String command, Path folder) throws Exception {
        Path printed = folder.resolve("printed");
        Process process = new ProcessBuilder("sh", "-c", command).directory(folder.toFile())
            .redirectErrorStream(true).redirectOutput(printed.toFile()).start();
        boolean ended = process.waitFor(MOST_SECONDS, TimeUnit.SECONDS);
        if (!ended) {
            process.destroyForcibly();
        }
        String text = Files.readString(printed);
        holds("it ends with 0: " + command + "\n" + text, ended && process.exitValue() == 0);
        return text;
    }

    private static void remove(Path folder) throws IOException {
        try (Stream<Path> all = Files.walk(folder)) {
            for (Path one : all.sorted((a, b) -> b.compareTo(a)).toList()) {
                Files.delete(one);
            }
        }
    }

    private static void calls(String readme) {
        run = "What can be called";
        for (Method m : HiccupLane.class.getDeclaredMethods()) {
            if (Modifier.isPublic(m.getModifiers())) {
                String told = "`" + m.getName() + "(";
                int at = readme.indexOf(told);
                int end = readme.indexOf(")", Math.max(0, at));
                holds(m.getName() + " is told", at >= 0);
                String arguments = at < 0 ? "" : readme.substring(at + told.length(), end);
                due("how many arguments " + m.getName() + " is told with",
                    arguments.isEmpty() ? 0 : arguments.split(",").length, m.getParameterCount());
            }
        }
    }

    private static void tests(String readme) throws IOException {
        run = "How to run its tests";
        try (Stream<Path> all = Files.list(Path.of("src/test/java"))) {
            for (Path one : all.toList()) {
                String name = one.getFileName().toString().replace(".java", "");
                holds(name + " is told", readme.contains("- `" + name + "`: "));
            }
        }
    }
}
