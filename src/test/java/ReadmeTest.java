import java.io.IOException;
import java.nio.charset.StandardCharsets;
import java.nio.file.Files;
import java.nio.file.Path;

/** The example of README.md, run as it stands there, prints what README.md says. */
public final class ReadmeTest {
    public static void main(String[] args) throws IOException, InterruptedException {
        String readme = Files.readString(Path.of("README.md"));
        String printed = run(block(readme, "java")).strip();
        String said = block(readme, "text").strip();
        if (!printed.equals(said)) {
            System.out.println("the example printed:\n" + printed + "\nREADME.md says:\n" + said);
            System.exit(1);
        }
        System.out.println("the example prints what README.md says");
    }

    /** The first block of a kind. */
    private static String block(String readme, String kind) {
        String opening = "```" + kind + "\n";
        int from = readme.indexOf(opening);
        int to = readme.indexOf("\n```", from + opening.length());
        if (from < 0 || to < 0) {
            throw new IllegalStateException("README.md has no block of " + kind);
        }
        return readme.substring(from + opening.length(), to);
    }

    private static String run(String lines) throws IOException, InterruptedException {
        Path file = Files.createTempFile("Example", ".java");
        try {
            Files.writeString(file, "class Example { public static void main(String[] args) {\n" + lines + "\n} }\n");
            Process example = new ProcessBuilder("java", "-cp", System.getProperty("java.class.path"), file.toString())
                .redirectErrorStream(true).start();
            String printed = new String(example.getInputStream().readAllBytes(), StandardCharsets.UTF_8);
            example.waitFor();
            return printed;
        } finally {
            Files.delete(file);
        }
    }
}
