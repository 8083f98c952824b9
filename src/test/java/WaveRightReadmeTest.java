import java.io.ByteArrayOutputStream;
import java.io.IOException;
import java.io.PrintStream;
import java.net.URL;
import java.net.URLClassLoader;
import java.nio.file.Files;
import java.nio.file.Path;
import java.nio.file.Paths;
import java.util.regex.Matcher;
import java.util.regex.Pattern;
import javax.tools.ToolProvider;

/** README.md holds: its program compiles with the class and prints what stands there, and each call of the face is named. */
public final class WaveRightReadmeTest {
    private static int wrong = 0;

    private static void check(boolean is, String what) {
        if (!is) {
            wrong++;
            System.out.println("README.md: " + what);
        }
    }

    private static String block(String readme, String kind) {
        Matcher block = Pattern.compile("(?s)```" + kind + "\n(.*?)```").matcher(readme);
        boolean found = block.find();
        check(found, "there is a block of " + kind);
        return found ? block.group(1) : "";
    }

    private static String printedBy(Path work) throws IOException, ReflectiveOperationException {
        PrintStream before = System.out;
        ByteArrayOutputStream printed = new ByteArrayOutputStream();
        try (URLClassLoader loader = new URLClassLoader(new URL[] {work.toUri().toURL()});
                PrintStream out = new PrintStream(printed, true)) {
            System.setOut(out);
            loader.loadClass("Example").getMethod("main", String[].class).invoke(null, (Object) new String[0]);
        } finally {
            System.setOut(before);
        }
        return printed.toString().replace(System.lineSeparator(), "\n");
    }

    private static void example(String readme, Path work) throws IOException, ReflectiveOperationException {
        Path source = work.resolve("Example.java");
        Files.writeString(source, block(readme, "java"));
        int compiled = ToolProvider.getSystemJavaCompiler().run(null, null, null, "-cp",
                System.getProperty("java.class.path"), "-d", work.toString(), source.toString());
        check(compiled == 0, "the program compiles");
        if (compiled == 0) {
            String printed = printedBy(work);
            check(printed.equals(block(readme, "text")), "the program prints\n" + printed);
        }
    }

    private static void namesAllCalls(String readme, String document) {
        Matcher call = Pattern.compile("(?m)^    public (?:int|long|boolean) (\\w+)\\(").matcher(document);
        int found = 0;
        for (; call.find(); found++) {
            check(readme.contains("`" + call.group(1) + "`"), "it names " + call.group(1));
        }
        check(found == 28, "the document's face has " + found + " calls");
    }

    public static void main(String[] args) throws IOException, ReflectiveOperationException {
        String readme = Files.readString(Paths.get("README.md"));
        Path work = Files.createTempDirectory("readme");
        try {
            example(readme, work);
        } finally {
            for (String name : new String[] {"Example.java", "Example.class"}) {
                Files.deleteIfExists(work.resolve(name));
            }
            Files.delete(work);
        }
        namesAllCalls(readme, Files.readString(Paths.get("../shared/DOC.md")));
        System.out.println(wrong == 0 ? "the program of README.md prints what it should" : wrong + " of README.md is wrong");
        if (wrong != 0) {
            System.exit(1);
        }
    }
}
