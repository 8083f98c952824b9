import java.io.IOException;
import java.nio.charset.StandardCharsets;
import java.nio.file.Files;
import java.nio.file.Path;
import java.nio.file.Paths;
import java.util.regex.Matcher;
import java.util.regex.Pattern;

/** README.md holds: its program compiles with the class and prints what stands there, and each call of the face is named. */
public final class WaveRightReadmeTest {
    private static final int CALLS_OF_THE_FACE = 28;

    private static int wrong = 0;

    private static void check(boolean is, String what) {
        if (!is) {
            wrong++;
            System.out.println("README.md: " + what);
        }
    }

    private static String block(String readme, String kind) {
        Matcher block = Pattern.compile("(?s)```" + kind + "\n(.*?)```").matcher(readme);
        boolean found = block.find();
        check(found, "there is a block of " + kind);
        return found ? block.group(1) : "";
    }

    /** What a command prints; with what is wrong, if it fails. */
    private static String printedBy(String... command) throws IOException, InterruptedException {
        Process made = new ProcessBuilder(command).redirectErrorStream(true).start();
        String printed = new String(made.getInputStream().readAllBytes(), StandardCharsets.UTF_8);
        check(made.waitFor() == 0, command[0] + " fails:\n" + printed);
        return printed.replace(System.lineSeparator(), "\n");
    }

    private static void example(String readme, Path work) throws IOException, InterruptedException {
        Path source = work.resolve("Example.java");
        Files.writeString(source, block(readme, "java"));
        String classes = System.getProperty("java.class.path");
        printedBy("javac", "-cp", classes, "-d", work.toString(), source.toString());
        String printed = printedBy("java", "-cp", classes + System.getProperty("path.separator") + work, "Example");
        check(printed.equals(block(readme, "text")), "the program prints\n" + printed);
    }

    private static void namesAllCalls(String readme, String document) {
        Matcher call = Pattern.compile("(?m)^    public (?:int|long|boolean) (\\w+)\\(").matcher(document);
        int found = 0;
        for (; call.find(); found++) {
            check(readme.contains("`" + call.group(1) + "`"), "it does not name " + call.group(1));
        }
        check(found == CALLS_OF_THE_FACE, "the document's face has " + found + " calls");
    }

    public static void main(String[] args) throws IOException, InterruptedException {
        String readme = Files.readString(Paths.get("README.md"));
        Path work = Files.createTempDirectory("readme");
        try {
            example(readme, work);
        } finally {
            Files.deleteIfExists(work.resolve("Example.java"));
            Files.deleteIfExists(work.resolve("Example.class"));
            Files.deleteIfExists(work);
        }
        namesAllCalls(readme, Files.readString(Paths.get("../shared/DOC.md")));
        System.out.println(wrong == 0 ? "README.md holds" : wrong + " of README.md does not hold");
        if (wrong != 0) {
            System.exit(1);
        }
    }
}
