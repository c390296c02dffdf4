import java.io.IOException;
import java.lang.reflect.Method;
import java.lang.reflect.Modifier;
import java.nio.file.FileVisitOption;
import java.nio.file.Files;
import java.nio.file.Path;
import java.util.ArrayList;
import java.util.Comparator;
import java.util.List;
import java.util.Set;
import java.util.TreeSet;
import java.util.regex.Matcher;
import java.util.regex.Pattern;
import java.util.stream.Stream;

/** README.md, followed word for word in a clean copy of the project, with ../shared beside it. */
public final class ReadmeTest {
    private static final Path PROJECT = Path.of("").toAbsolutePath();
    private static final String[] KEPT = {".ci", "src", "README.md", "NOTES.md"};
    /** The command that runs this test, too: followed here, it would never end. */
    private static final String ALL_TESTS = ".ci/run\n";

    private final Path copy;
    private String printed = null;

    private ReadmeTest(Path copy) {
        this.copy = copy;
    }

    public static void main(String[] args) throws IOException, InterruptedException {
        String page = Files.readString(PROJECT.resolve("README.md"));
        Path room = Files.createTempDirectory("readme");
        try {
            Path copy = room.resolve("project");
            for (String name : KEPT) {
                copyAll(PROJECT.resolve(name), copy.resolve(name));
            }
            copyAll(PROJECT.resolve("../shared").toRealPath(), room.resolve("shared"));
            new ReadmeTest(copy).follow(page);
        } finally {
            removeAll(room);
        }
        hasNoOtherCommands(page);
        namesEachCall(page);
        namesEachTest(page);
        Checks.end("ReadmeTest");
    }

    // ---- a clean copy

    private static List<Path> allUnder(Path top) throws IOException {
        try (Stream<Path> paths = Files.walk(top, FileVisitOption.FOLLOW_LINKS)) {
            return paths.toList();
        }
    }

    private static void copyAll(Path from, Path to) throws IOException {
        for (Path path : allUnder(from)) {
            Path target = to.resolve(from.relativize(path).toString());
            if (Files.isDirectory(path)) {
                Files.createDirectories(target);
            } else if (!path.toString().endsWith(".class")) {
                Files.createDirectories(target.getParent());
                Files.copy(path, target);
            }
        }
    }

    private static void removeAll(Path top) throws IOException {
        List<Path> paths = new ArrayList<>(allUnder(top));
        paths.sort(Comparator.reverseOrder());
        for (Path path : paths) {
            Files.delete(path);
        }
    }

    // ---- what the page tells to do

    /** Each block in turn: a program is saved, commands are run, a text is what they printed. */
    private void follow(String page) throws IOException, InterruptedException {
        Matcher block = Pattern.compile("^```(\\w*)\n(.*?)^```$", Pattern.MULTILINE | Pattern.DOTALL).matcher(page);
        Set<String> kinds = new TreeSet<>();
        while (block.find()) {
            kinds.add(block.group(1));
            followBlock(block.group(1), block.group(2));
        }
        Checks.dueTrue("README.md has a program, commands, and what they print; it has " + kinds,
            kinds.equals(Set.of("java", "sh", "text")));
    }

    private void followBlock(String kind, String text) throws IOException, InterruptedException {
        switch (kind) {
            case "java" -> save(text);
            case "sh" -> {
                if (text.equals(ALL_TESTS)) {
                    Checks.dueTrue(text + " can be run", Files.isExecutable(copy.resolve(text.trim())));
                } else {
                    run(text);
                }
            }
            default -> Checks.dueTrue("README.md says it prints\n" + text + "It prints\n" + printed,
                text.equals(printed));
        }
    }

    private void save(String program) throws IOException {
        Matcher name = Pattern.compile("public final class (\\w+)").matcher(program);
        if (name.find()) {
            Files.writeString(copy.resolve(name.group(1) + ".java"), program);
        }
    }

    private void run(String commands) throws IOException, InterruptedException {
        Process run = new ProcessBuilder("bash", "-e", "-c", commands)
            .directory(copy.toFile())
            .redirectError(ProcessBuilder.Redirect.INHERIT)
            .start();
        printed = new String(run.getInputStream().readAllBytes());
        Checks.due("exit code of\n" + commands + printed, run.waitFor(), 0);
    }

    // ---- what the page names

    /** A command within a sentence would not be followed above, and so might not be as the page says. */
    private static void hasNoOtherCommands(String page) {
        Matcher command = Pattern.compile("`javac? [^`]*`").matcher(page);
        while (command.find()) {
            Checks.dueTrue("README.md's " + command.group() + " stands in a block of commands", false);
        }
    }

    private static void namesEachCall(String page) {
        for (Method m : WellTold.class.getDeclaredMethods()) {
            if (Modifier.isPublic(m.getModifiers())) {
                Checks.dueTrue("README.md says what " + m.getName() + " is for", page.contains("`" + m.getName() + "`"));
            }
        }
    }

    private static void namesEachTest(String page) throws IOException {
        Set<String> there = new TreeSet<>();
        for (Path path : allUnder(PROJECT.resolve("src/test/java"))) {
            String name = path.getFileName().toString();
            if (name.endsWith("Test.java")) {
                there.add(name.replace(".java", ""));
            }
        }
        Set<String> named = new TreeSet<>();
        Matcher row = Pattern.compile("^\\| `(\\w+Test)` \\|", Pattern.MULTILINE).matcher(page);
        while (row.find()) {
            named.add(row.group(1));
        }
        Checks.dueTrue("README.md names the tests " + named + ", there are " + there, named.equals(there));
    }
}
