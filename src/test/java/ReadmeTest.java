import java.io.IOException;
import java.nio.charset.StandardCharsets;
import java.nio.file.Files;
import java.nio.file.Path;
import java.util.ArrayList;
import java.util.Comparator;
import java.util.List;
import java.util.regex.Matcher;
import java.util.regex.Pattern;
import java.util.stream.Stream;

/**
 * What README.md says is so when it is followed word for word in a copy of the checkout: a java block
 * is saved, an sh block is run, and a text block is what the run before it has printed.
 */
public final class ReadmeTest {
    private static final Pattern BLOCK = Pattern.compile("(?sm)^```(\\w+)\n(.*?)^```$");
    private static final Pattern CLASS = Pattern.compile("public final class (\\w+)");
    private static final String ALL_TESTS = ".ci/run\n";

    private final Path root;
    private final Path copy;
    private final String readme;
    private final List<String> followed = new ArrayList<>();
    private String printed = "";

    private ReadmeTest(Path root, Path copy) throws IOException {
        this.root = root;
        this.copy = copy;
        readme = Files.readString(root.resolve("README.md"));
    }

    public static void main(String[] args) throws Exception {
        Path source = Path.of(args.length > 0 ? args[0] : "src/main/java/BeggarKings.java").toAbsolutePath();
        Path copy = Files.createTempDirectory("readme");
        try {
            new ReadmeTest(source.getParent().getParent().getParent().getParent(), copy).follow();
        } finally {
            delete(copy);
        }
        Check.finish();
    }

    private void follow() throws Exception {
        copySources();
        Matcher block = BLOCK.matcher(readme);
        while (block.find()) {
            followed.add(block.group(1));
            followBlock(block.group(1), block.group(2));
        }
        Check.same("the blocks of README.md", String.join(" ", followed), "java sh text sh sh");
    }

    private void followBlock(String language, String text) throws Exception {
        if (language.equals("java")) {
            save(text);
        } else if (language.equals("text")) {
            Check.same("what README.md says is printed", printed, text);
        } else if (text.equals(ALL_TESTS)) {
            // not run here: it runs this test
            Check.isTrue(".ci/run can be executed", Files.isExecutable(root.resolve(".ci/run")));
        } else {
            run(text);
        }
    }

    private void save(String program) throws IOException {
        Matcher name = CLASS.matcher(program);
        Check.isTrue("the program has a public class", name.find());
        String file = name.group(1) + ".java";
        Check.isTrue("README.md tells where to save " + file, readme.contains("save this as `" + file + "` beside this README"));
        Files.writeString(copy.resolve(file), program);
    }

    private void run(String script) throws Exception {
        Process process = new ProcessBuilder("sh", "-e", "-c", script)
                .directory(copy.toFile()).redirectError(ProcessBuilder.Redirect.INHERIT).start();
        printed = new String(process.getInputStream().readAllBytes(), StandardCharsets.UTF_8);
        Check.same("the exit code of " + script, process.waitFor(), 0);
    }

    private void copySources() throws IOException {
        try (Stream<Path> files = Files.walk(root.resolve("src"))) {
            for (Path file : (Iterable<Path>) files.filter(Files::isRegularFile)::iterator) {
                Path target = copy.resolve(root.relativize(file).toString());
                Files.createDirectories(target.getParent());
                Files.copy(file, target);
            }
        }
    }

    private static void delete(Path directory) throws IOException {
        try (Stream<Path> files = Files.walk(directory)) {
            for (Path file : (Iterable<Path>) files.sorted(Comparator.reverseOrder())::iterator) {
                Files.delete(file);
            }
        }
    }
}
