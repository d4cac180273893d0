import java.io.File;
import java.net.URL;
import java.net.URLClassLoader;
import java.nio.file.Files;
import java.nio.file.Path;
import java.util.ArrayList;
import java.util.List;
import java.util.regex.Matcher;
import java.util.regex.Pattern;
import java.util.stream.Stream;

/** README.md's Java is compiled and run: each call of its own line answers the number behind it. */
public final class ReadmeTest {
    private static final Pattern BLOCK = Pattern.compile("```java\n(.*?)```", Pattern.DOTALL);
    private static final Pattern CALL = Pattern.compile("(x\\.\\w+\\([^;]*\\)); *// (-?\\d+): .+");

    public static void main(String[] args) throws Exception {
        Path root = Path.of(System.getProperty("oneturned.root", "."));
        String readme = Files.readString(root.resolve("README.md"));
        List<String> blocks = new ArrayList<>();
        Matcher matcher = BLOCK.matcher(readme);
        while (matcher.find()) {
            blocks.add(matcher.group(1));
        }
        Due.holds("there are calls to look at", !blocks.isEmpty());
        run(blocks);
        namesEachTest(root, readme);
        Due.end();
    }

    /** For what is loaded by another loader, which sees public classes alone. */
    public static void due(String call, long got, long want) {
        Due.due("README.md: " + call, got, want);
    }

    private static void run(List<String> blocks) throws Exception {
        StringBuilder source = new StringBuilder("public final class Used {\n");
        for (int i = 0; i < blocks.size(); i++) {
            source.append("public static void block").append(i).append("() {\n");
            for (String line : blocks.get(i).split("\n")) {
                source.append(asked(line)).append('\n');
            }
            source.append("}\n");
        }
        Path folder = Files.createTempDirectory("used");
        Path file = folder.resolve("Used.java");
        Files.writeString(file, source.append("}\n"));
        String classes = System.getProperty("java.class.path");
        int answer = new ProcessBuilder("javac", "-encoding", "UTF-8", "-cp", classes, "-d", folder.toString(), file.toString())
            .inheritIO().start().waitFor();
        Due.due("javac of README.md's calls", answer, 0);
        if (answer == 0) {
            URL[] places = {folder.toUri().toURL()};
            try (URLClassLoader loader = new URLClassLoader(places, ReadmeTest.class.getClassLoader())) {
                Class<?> used = loader.loadClass("Used");
                for (int i = 0; i < blocks.size(); i++) {
                    used.getMethod("block" + i).invoke(null);
                }
            }
        }
        for (File each : folder.toFile().listFiles()) {
            each.delete();
        }
        Files.delete(folder);
    }

    /** A line with its answer looked at; a call at the line's begin must tell one. */
    private static String asked(String line) {
        Matcher call = CALL.matcher(line);
        if (call.matches()) {
            return "ReadmeTest.due(\"" + call.group(1).replace("\"", "\\\"") + "\", " + call.group(1) + ", "
                + call.group(2) + "L);";
        }
        Due.holds("README.md tells what is answered: " + line, !line.startsWith("x."));
        return line;
    }

    private static void namesEachTest(Path root, String readme) throws Exception {
        try (Stream<Path> files = Files.list(root.resolve("src/test/java"))) {
            files.map(file -> file.getFileName().toString()).filter(name -> name.endsWith("Test.java")).forEach(name ->
                Due.holds("README.md names " + name, readme.contains("`" + name.replace(".java", "") + "`")));
        }
        Due.holds("README.md says how tests are run", readme.contains("`bash .ci/run`"));
        Due.holds("it is there", Files.isRegularFile(root.resolve(".ci/run")));
    }
}
