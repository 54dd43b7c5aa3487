import java.io.IOException;
import java.io.InputStream;
import java.lang.reflect.Method;
import java.lang.reflect.Modifier;
import java.nio.file.Files;
import java.nio.file.Path;
import java.util.ArrayList;
import java.util.Comparator;
import java.util.List;
import java.util.Set;
import java.util.TreeSet;
import java.util.regex.Matcher;
import java.util.regex.Pattern;
import java.util.stream.Stream;

/** What README.md says holds when it is followed from a clean checkout. Run from the project's root. */
public final class ReadmeTest {
    private static final Pattern BLOCK = Pattern.compile("```(\\w+)\n(.*?)```", Pattern.DOTALL);

    private ReadmeTest() {
    }

    public static void main(String[] args) throws Exception {
        String readme = Files.readString(Path.of("README.md"));
        namesEachCall(readme);
        namesEachTest(readme);
        Path place = Files.createTempDirectory("readme");
        try {
            follow(readme, copyOfProject(place));
        } finally {
            remove(place);
        }
        Due.end();
    }

    private static void namesEachCall(String readme) {
        for (Method m : LevelLoops.class.getDeclaredMethods()) {
            if (Modifier.isPublic(m.getModifiers()) && !readme.contains("`" + m.getName() + "`")) {
                Due.fail("README.md does not name " + m.getName());
            }
        }
    }

    private static void namesEachTest(String readme) throws IOException {
        Set<String> named = new TreeSet<>();
        Matcher m = Pattern.compile("`(\\w+Test)`").matcher(readme);
        while (m.find()) {
            named.add(m.group(1));
        }
        Set<String> there = new TreeSet<>();
        try (Stream<Path> files = Files.list(Path.of("src/test/java"))) {
            for (Path file : files.toList()) {
                String name = file.getFileName().toString();
                if (name.endsWith("Test.java")) {
                    there.add(name.replace(".java", ""));
                }
            }
        }
        if (!named.equals(there)) {
            Due.fail("README.md names the tests " + named + ", there are " + there);
        }
    }

    /** A folder with the project's sources alone, and ../shared beside it. */
    private static Path copyOfProject(Path place) throws IOException {
        Files.createSymbolicLink(place.resolve("shared"), Path.of("../shared").toRealPath());
        Path project = place.resolve("project");
        Path source = Path.of("src");
        try (Stream<Path> files = Files.walk(source)) {
            for (Path file : files.toList()) {
                if (Files.isRegularFile(file)) {
                    Path copy = project.resolve(file.toString());
                    Files.createDirectories(copy.getParent());
                    Files.copy(file, copy);
                }
            }
        }
        return project;
    }

    /** Writes the example, runs the commands, and compares what they print last with the text behind them. */
    private static void follow(String readme, Path project) throws Exception {
        List<String> kinds = new ArrayList<>();
        String printed = "";
        Matcher m = BLOCK.matcher(readme);
        while (m.find()) {
            kinds.add(m.group(1));
            String text = m.group(2);
            if (m.group(1).equals("java")) {
                Files.writeString(project.resolve("Example.java"), text);
            } else if (m.group(1).equals("text")) {
                Due.same("what is printed, \"" + printed + "\"", printed.equals(text) ? 1 : 0, 1);
            } else if (text.equals(".ci/run\n")) {
                // it is what runs this test
                Due.same(".ci/run can be run", Files.isExecutable(Path.of(".ci/run")) ? 1 : 0, 1);
            } else {
                printed = run(text, project);
            }
        }
        Due.same("blocks: " + kinds, kinds.equals(List.of("java", "sh", "text", "sh", "sh", "text", "sh")) ? 1 : 0, 1);
    }

    private static String run(String commands, Path project) throws Exception {
        Process process = new ProcessBuilder("sh", "-eu", "-c", commands).directory(project.toFile())
                .redirectError(ProcessBuilder.Redirect.INHERIT).start();
        process.getOutputStream().close();
        String printed;
        try (InputStream in = process.getInputStream()) {
            printed = new String(in.readAllBytes());
        }
        Due.same("the end of " + commands + "with " + printed, process.waitFor(), 0);
        return printed;
    }

    private static void remove(Path place) throws IOException {
        List<Path> files;
        try (Stream<Path> all = Files.walk(place)) {
            files = all.sorted(Comparator.reverseOrder()).toList();
        }
        for (Path file : files) {
            Files.delete(file);
        }
    }
}
