import java.io.File;
import java.io.IOException;
import java.lang.reflect.Method;
import java.lang.reflect.Modifier;
import java.nio.charset.StandardCharsets;
import java.nio.file.Files;
import java.nio.file.Path;
import java.util.ArrayList;
import java.util.List;
import java.util.regex.Matcher;
import java.util.regex.Pattern;
import java.util.stream.Stream;

/** README.md as it stands: its example answers as its comments say, and it names all calls and all tests. */
final class ReadmeTest {
    private static final Pattern EXAMPLE = Pattern.compile("(?s)```java\n(.*?)```");
    private static final Pattern SHOWN = Pattern.compile("(?m)^ +show\\((.*)\\); +// (-?\\d+)\\b.*$");

    public static void main(String[] args) throws Exception {
        String readme = Files.readString(Path.of("README.md"));
        Matcher example = EXAMPLE.matcher(readme);
        Check.due("an example in README.md", example.find() ? 1 : 0, 1);
        answers(example.group(1));
        names(readme);
        Check.end();
    }

    private static void answers(String example) throws Exception {
        List<String> rows = run(example).lines().toList();
        List<String> calls = new ArrayList<>();
        Matcher shown = SHOWN.matcher(example);
        while (shown.find()) {
            if (calls.size() < rows.size()) {
                Check.due(shown.group(1), Long.parseLong(rows.get(calls.size())), Long.parseLong(shown.group(2)));
            }
            calls.add(shown.group(1));
        }
        Check.due("rows that the example shows", rows.size(), calls.size());
        Check.due("calls of show with an answer beside them", calls.size(), example.split("show\\(x").length - 1);
    }

    /** Compiles the example against the class, runs it, and answers what it showed. */
    private static String run(String example) throws Exception {
        Path folder = Files.createTempDirectory("readme");
        String classes = System.getProperty("java.class.path") + File.pathSeparator + folder;
        try {
            Path source = Files.writeString(folder.resolve("Example.java"), example);
            said("javac", "-Xlint:all", "-Werror", "-cp", classes, "-d", folder.toString(), source.toString());
            return said("java", "-cp", classes, "Example");
        } finally {
            for (Path file : files(folder)) {
                Files.delete(file);
            }
            Files.delete(folder);
        }
    }

    private static String said(String... command) throws IOException, InterruptedException {
        Process process = new ProcessBuilder(command).redirectError(ProcessBuilder.Redirect.INHERIT).start();
        String said = new String(process.getInputStream().readAllBytes(), StandardCharsets.UTF_8);
        Check.due("the end of " + command[0] + " of the example", process.waitFor(), 0);
        return said;
    }

    private static void names(String readme) throws IOException {
        for (Method method : MirrorHour.class.getDeclaredMethods()) {
            if (Modifier.isPublic(method.getModifiers())) {
                stands(readme, method.getName());
            }
        }
        for (Path file : files(Path.of("src/test/java"))) {
            stands(readme, file.getFileName().toString().replace(".java", ""));
        }
    }

    private static void stands(String readme, String name) {
        Check.due("`" + name + "` in README.md", readme.contains("`" + name + "`") ? 1 : 0, 1);
    }

    private static List<Path> files(Path folder) throws IOException {
        try (Stream<Path> files = Files.list(folder)) {
            return files.toList();
        }
    }
}
