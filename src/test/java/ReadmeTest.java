import java.io.IOException;
import java.lang.reflect.Method;
import java.lang.reflect.Modifier;
import java.nio.charset.StandardCharsets;
import java.nio.file.Files;
import java.nio.file.Path;
import java.util.ArrayList;
import java.util.List;
import java.util.TreeSet;
import java.util.regex.Matcher;
import java.util.regex.Pattern;
import java.util.stream.Collectors;
import java.util.stream.Stream;

/** README.md holds as it stands there: its program, its commands, and the names of the calls and of the tests. */
public final class ReadmeTest {
    private static final Path PROJECT = Path.of(System.getProperty("project", ".")).toAbsolutePath();

    public static void main(String[] args) throws IOException, InterruptedException {
        String readme = Files.readString(PROJECT.resolve("README.md"));
        names(readme);
        Path build = Files.createDirectories(PROJECT.resolve("build"));
        Path copy = Files.createTempDirectory(build, "readme");
        try {
            copySource(copy);
            commands(readme, copy);
        } finally {
            delete(copy);
        }
        Check.end();
    }

    private static void names(String readme) throws IOException {
        Check.part("README.md");
        for (Method m : BathBoats.class.getDeclaredMethods()) {
            if (Modifier.isPublic(m.getModifiers())) {
                Check.due("tells of " + m.getName(), readme.contains("`" + m.getName() + "`"), true);
            }
        }
        TreeSet<String> told = new TreeSet<>();
        Matcher row = Pattern.compile("(?m)^\\| `(\\w+Test)` \\|").matcher(readme);
        while (row.find()) {
            told.add(row.group(1) + ".java");
        }
        try (Stream<Path> files = Files.list(PROJECT.resolve("src/test/java"))) {
            Check.due("tests", told, files.map(f -> f.getFileName().toString()).filter(n -> n.endsWith("Test.java"))
                    .collect(Collectors.toCollection(TreeSet::new)));
        }
    }

    private static void commands(String readme, Path copy) throws IOException, InterruptedException {
        Files.writeString(copy.resolve("Example.java"), blocks(readme, "java").get(0));
        List<String> scripts = blocks(readme, "sh");
        Check.due("commands", scripts.size(), 2);
        Check.due("the example prints", run(scripts.get(0), copy), blocks(readme, "text").get(0) + "exit 0");
        Check.due("one test ends well", run(scripts.get(1), copy).endsWith(", 0 wrong\nexit 0"), true);
    }

    private static List<String> blocks(String readme, String kind) {
        List<String> found = new ArrayList<>();
        Matcher block = Pattern.compile("(?ms)^```" + kind + "\n(.*?)^```$").matcher(readme);
        while (block.find()) {
            found.add(block.group(1));
        }
        return found;
    }

    private static String run(String script, Path directory) throws IOException, InterruptedException {
        Process process = new ProcessBuilder("sh", "-e", "-c", script).directory(directory.toFile())
                .redirectErrorStream(true).start();
        String output = new String(process.getInputStream().readAllBytes(), StandardCharsets.UTF_8);
        return output + "exit " + process.waitFor();
    }

    /** The commands leave files behind, so they are run in a copy. */
    private static void copySource(Path copy) throws IOException {
        try (Stream<Path> files = Files.walk(PROJECT.resolve("src"))) {
            for (Path file : files.collect(Collectors.toList())) {
                Files.copy(file, copy.resolve(PROJECT.relativize(file).toString()));
            }
        }
    }

    private static void delete(Path directory) throws IOException {
        try (Stream<Path> files = Files.walk(directory)) {
            List<Path> all = files.collect(Collectors.toList());
            for (int i = all.size() - 1; i >= 0; i--) {
                Files.delete(all.get(i));
            }
        }
    }
}
