import java.io.IOException;
import java.nio.charset.StandardCharsets;
import java.nio.file.Files;
import java.nio.file.Path;
import java.util.ArrayList;
import java.util.Comparator;
import java.util.List;
import java.util.regex.Matcher;
import java.util.regex.Pattern;
import java.util.stream.Stream;

/** README.md followed word by word: its program, its commands, and the files that it names. */
public final class ReadmeTest {
    private static final Due due = new Due();
    private static final Path ROOT = Path.of("").toAbsolutePath();

    public static void main(String[] args) throws Exception {
        String text = Files.readString(ROOT.resolve("README.md"));
        programPrints(text);
        commentsSayWhatIsPrinted(text);
        testsAreNamed(text);
        everyNameIsThere(text);
        due.end("ReadmeTest");
    }

    /** What stands between the marks of blocks of a kind, in their order. */
    private static List<String> blocks(String text, String kind) {
        List<String> found = new ArrayList<>();
        Matcher m = Pattern.compile("(?s)```" + kind + "\\n(.*?)```").matcher(text);
        while (m.find()) {
            found.add(m.group(1));
        }
        return found;
    }

    private static String only(String text, String kind) {
        List<String> found = blocks(text, kind);
        due.is("blocks of " + kind, found.size(), 1);
        return found.isEmpty() ? "" : found.get(0);
    }

    // The commands write beside src, so they are given in a place where src is the checkout's.
    private static void programPrints(String text) throws Exception {
        Path place = Files.createTempDirectory("readme");
        try {
            Files.createSymbolicLink(place.resolve("src"), ROOT.resolve("src"));
            Files.writeString(place.resolve("Cooks.java"), only(text, "java"));
            List<String> commands = blocks(text, "sh");
            due.is("blocks of commands", commands.size(), 3);
            due.holds("the program prints what the page says",
                    printed(place, commands.get(0)).equals(only(text, "text")));
            due.holds("the second block is what runs all, so it is not given here", commands.get(1).equals(".ci/run\n"));
            due.holds("it is there to be run", Files.isExecutable(ROOT.resolve(".ci/run")));
            String one = printed(place, commands.get(2));
            due.holds("one test alone: " + one, one.startsWith("PromiseTest: ") && one.endsWith(", 0 wrong\n"));
        } finally {
            remove(place);
        }
    }

    private static String printed(Path place, String commands) throws Exception {
        Process process = new ProcessBuilder("sh", "-e", "-c", commands).directory(place.toFile())
                .redirectErrorStream(true).start();
        process.getOutputStream().close();
        String printed = new String(process.getInputStream().readAllBytes(), StandardCharsets.UTF_8);
        due.is("end of " + commands + printed, process.waitFor(), 0);
        return printed;
    }

    private static void remove(Path place) throws IOException {
        try (Stream<Path> all = Files.walk(place)) {
            for (Path path : all.sorted(Comparator.reverseOrder()).toList()) {
                Files.delete(path);
            }
        }
    }

    /** Beside each call that is printed stands its answer. */
    private static void commentsSayWhatIsPrinted(String text) {
        StringBuilder said = new StringBuilder();
        for (String line : only(text, "java").split("\n")) {
            if (line.contains("println")) {
                said.append(line.replaceAll(".*// (-?\\d+): .*", "$1")).append("\n");
            }
        }
        due.holds("the answers beside the calls: " + said, said.toString().equals(only(text, "text")));
    }

    private static void testsAreNamed(String text) throws IOException {
        try (Stream<Path> files = Files.list(ROOT.resolve("src/test/java"))) {
            for (Path file : files.toList()) {
                String name = file.getFileName().toString().replace(".java", "");
                due.holds("the page says what " + name + " is", text.contains("`" + name + "`"));
            }
        }
    }

    /** A name of a class or a file that the page marks is one that there is. */
    private static void everyNameIsThere(String text) {
        Matcher m = Pattern.compile("`([A-Z][a-z]\\w*|[^`\\s]*/[^`\\s]*)`").matcher(text.replaceAll("(?s)```.*?```", ""));
        while (m.find()) {
            String name = m.group(1);
            boolean isFile = name.contains("/");
            due.holds("there is " + name, Files.exists(ROOT.resolve(isFile ? name : "src/test/java/" + name + ".java")));
        }
    }
}
