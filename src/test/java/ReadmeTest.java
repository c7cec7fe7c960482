import java.io.IOException;
import java.io.InputStream;
import java.nio.charset.StandardCharsets;
import java.nio.file.Files;
import java.nio.file.Path;
import java.util.Comparator;
import java.util.List;
import java.util.stream.Stream;
import javax.tools.JavaCompiler;
import javax.tools.ToolProvider;

/** The example of README.md, compiled as it stands there with the class, prints what README.md says. */
public final class ReadmeTest {
    public static void main(String[] args) throws IOException, InterruptedException {
        String readme = Files.readString(Path.of("README.md")).replace("\r", "");
        String due = block(readme, "text");
        Path made = Files.createTempDirectory("readme");
        String got;
        try {
            Files.writeString(made.resolve("Example.java"), block(readme, "java"));
            got = compiles(made) ? printed(made) : "what doesn't compile";
        } finally {
            removeAll(made);
        }
        boolean good = !due.isEmpty() && got.equals(due);
        System.out.println("ReadmeTest: " + (good ? "the example does what it says" : "the example prints\n" + got + "and should print\n" + due));
        if (!good) {
            System.exit(1);
        }
    }

    /** The lines of the first block of a kind; empty: there is none. */
    private static String block(String readme, String kind) {
        int head = readme.indexOf("\n```" + kind + "\n");
        int start = head + kind.length() + 5;
        int end = head < 0 ? -1 : readme.indexOf("```\n", start);
        return end < 0 ? "" : readme.substring(start, end);
    }

    private static boolean compiles(Path made) {
        JavaCompiler compiler = ToolProvider.getSystemJavaCompiler();
        return compiler != null && compiler.run(null, null, null, "-encoding", "UTF-8", "-d", made.toString(), "src/main/java/PlateDay.java",
            made.resolve("Example.java").toString()) == 0;
    }

    /** A machine of its own runs it, so that an example that ends early is seen, too. */
    private static String printed(Path made) throws IOException, InterruptedException {
        String java = Path.of(System.getProperty("java.home"), "bin", "java").toString();
        Process run = new ProcessBuilder(List.of(java, "-cp", made.toString(), "Example")).redirectErrorStream(true).start();
        try (InputStream answers = run.getInputStream()) {
            String lines = new String(answers.readAllBytes(), StandardCharsets.UTF_8).replace("\r", "");
            return run.waitFor() == 0 ? lines : lines + "(and fails)\n";
        }
    }

    private static void removeAll(Path made) throws IOException {
        try (Stream<Path> all = Files.walk(made)) {
            for (Path one : all.sorted(Comparator.reverseOrder()).toList()) {
                Files.delete(one);
            }
        }
    }
}
