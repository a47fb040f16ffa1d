import java.io.IOException;
import java.io.InputStream;
import java.nio.charset.StandardCharsets;
import java.nio.file.Files;
import java.nio.file.Path;
import java.util.ArrayList;
import java.util.Comparator;
import java.util.List;
import java.util.regex.Matcher;
import java.util.regex.Pattern;
import java.util.stream.Stream;

/** What README.md says has to be so: its example, compiled and run by its own commands, its reasons and its tests. */
public final class ReadmeTests {
    private static final String README = "README.md";
    private static final String SOURCE = "src/main/java/RecipeForests.java";
    private static final String EXAMPLE = "examples/Supper.java";

    private static int wrong = 0;

    public static void main(String[] args) throws IOException, InterruptedException {
        String text = Files.readString(Path.of(README));
        same("the example", Files.readString(Path.of(EXAMPLE)), block(text, "java"));
        same("what the example prints", printed(block(text, "sh")), block(text, "text"));
        for (int reason = 1; reason <= 11; reason++) {
            fault(!text.contains("\n| " + reason + " | "), "the reason " + reason + " is not told");
        }
        testsNamed(text);
        System.out.println("README.md: " + wrong + " faults");
        if (wrong != 0) {
            System.exit(1);
        }
    }

    private static void fault(boolean isSo, String what) {
        if (isSo) {
            wrong++;
            System.out.println(what);
        }
    }

    private static void same(String what, String due, String got) {
        fault(!got.equals(due), what + " is not as README.md has it: " + got + "\ndue is: " + due);
    }

    /** The first block of the kind. */
    private static String block(String text, String kind) {
        Matcher matcher = Pattern.compile("```" + kind + "\n(.*?)```\n", Pattern.DOTALL).matcher(text);
        return matcher.find() ? matcher.group(1) : "no block of the kind " + kind;
    }

    // In a directory of its own, so that nothing of an earlier run helps and nothing stays in the checkout.
    private static String printed(String commands) throws IOException, InterruptedException {
        Path directory = Files.createTempDirectory("readme");
        try {
            for (String file : List.of(SOURCE, EXAMPLE)) {
                Files.createDirectories(directory.resolve(file).getParent());
                Files.copy(Path.of(file), directory.resolve(file));
            }
            Process process = new ProcessBuilder("sh", "-ec", commands).directory(directory.toFile()).redirectErrorStream(true).start();
            process.getOutputStream().close();
            String output;
            try (InputStream stream = process.getInputStream()) {
                output = new String(stream.readAllBytes(), StandardCharsets.UTF_8);
            }
            return process.waitFor() == 0 ? output : "the commands fail: " + output;
        } finally {
            remove(directory);
        }
    }

    private static void remove(Path directory) throws IOException {
        List<Path> all = new ArrayList<>();
        try (Stream<Path> paths = Files.walk(directory)) {
            paths.sorted(Comparator.reverseOrder()).forEach(all::add);
        }
        for (Path path : all) {
            Files.delete(path);
        }
    }

    private static void testsNamed(String text) throws IOException {
        try (Stream<Path> files = Files.list(Path.of("src/test/java"))) {
            files.map(file -> file.getFileName().toString().replace(".java", ""))
                    .forEach(name -> fault(!text.contains("`" + name + "`"), name + " is not named in README.md"));
        }
        Matcher matcher = Pattern.compile("`(\\w+Tests)`").matcher(text);
        while (matcher.find()) {
            String name = matcher.group(1);
            fault(!Files.exists(Path.of("src/test/java/" + name + ".java")), name + " is named in README.md and not there");
        }
    }
}
