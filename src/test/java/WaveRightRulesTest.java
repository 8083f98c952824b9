import com.sun.management.ThreadMXBean;
import java.io.IOException;
import java.lang.management.ManagementFactory;
import java.lang.reflect.Constructor;
import java.lang.reflect.Field;
import java.lang.reflect.Method;
import java.lang.reflect.Modifier;
import java.nio.file.Files;
import java.nio.file.Path;
import java.nio.file.Paths;
import java.util.Arrays;
import java.util.List;
import java.util.TreeSet;
import java.util.regex.Matcher;
import java.util.regex.Pattern;

/** What of LANGUAGE.md can be seen from outside: the face, words and shapes of the source, the room of a run. */
public final class WaveRightRulesTest {
    private static final int MOST_LINES = 60;
    private static final int MOST_FIELDS = 20;
    private static final int MOST_CLASSES = 12;
    // So a hundred objects in one run still stay far below the room of 7.3 million elements.
    private static final long MOST_BYTES_OF_AN_OBJECT = 60_000;
    private static final String[] FORBIDDEN = {"->", "::", "\\bfinally\\b", "\\bsynchronized\\b", "\\bassert\\b",
        "\\bprotected\\b", "\\bcatch\\b", "static \\{", "\\bSystem\\b", "\\bString\\.", "\\bnull\\b", "\\bExact\\b",
        "\\+ \"", "\" \\+", "\\bObject\\b", "\\bequals\\(", "\\bhashCode\\b", "\\btoString\\b"};

    private static int wrong = 0;

    private static void check(boolean is, String what) {
        if (!is) {
            wrong++;
            System.out.println("against the rules: " + what);
        }
    }

    private static void face(String source, String document) {
        String flat = source.replaceAll("\\s+", " ");
        Matcher face = Pattern.compile("(?m)^    (public .*);$").matcher(document);
        TreeSet<String> names = new TreeSet<>();
        int found = 0;
        while (face.find()) {
            String line = face.group(1);
            found++;
            check(flat.contains(line + (line.contains("=") ? ";" : " {")), "the face has " + line);
            Matcher name = Pattern.compile("(\\w+)\\(").matcher(line);
            if (name.find()) {
                names.add(name.group(1));
            }
        }
        check(found > 25, "the face of the document was found");
        for (Class<?> inside : WaveRight.class.getDeclaredClasses()) {
            check(!Modifier.isPublic(inside.getModifiers()) && Modifier.isStatic(inside.getModifiers()), inside.getName());
            for (Method method : inside.getDeclaredMethods()) {
                check(!names.contains(method.getName()), "a name of the face in " + inside.getName());
            }
            check(fields(inside) <= MOST_FIELDS, "too many fields in " + inside.getName());
        }
        check(WaveRight.class.getDeclaredClasses().length <= MOST_CLASSES, "too many classes");
        for (Method method : WaveRight.class.getDeclaredMethods()) {
            check(method.isSynthetic() || Modifier.isPrivate(method.getModifiers()) || names.contains(method.getName()),
                    "a member that is not of the face: " + method.getName());
            check(method.getParameterCount() <= 7, "too many parameters: " + method.getName());
        }
        for (Field field : WaveRight.class.getDeclaredFields()) {
            check(Modifier.isPrivate(field.getModifiers()) || field.getName().equals("NONE"), field.getName());
        }
        check(WaveRight.class.getConstructors().length == 1, "one constructor");
        for (Constructor<?> constructor : WaveRight.class.getDeclaredConstructors()) {
            check(constructor.getParameterCount() == 0, "a constructor without parameters");
        }
    }

    private static int fields(Class<?> of) {
        int fields = 0;
        for (Field field : of.getDeclaredFields()) {
            check(!Modifier.isStatic(field.getModifiers()) || Modifier.isFinal(field.getModifiers()), field.getName());
            fields += Modifier.isStatic(field.getModifiers()) ? 0 : 1;
        }
        return fields;
    }

    private static void words(String source) {
        String code = source.replaceAll("(?s)/\\*.*?\\*/", "").replaceAll("//[^\n]*", "");
        for (String word : FORBIDDEN) {
            check(!Pattern.compile(word).matcher(code).find(), "the source has " + word);
        }
        Matcher imports = Pattern.compile("(?m)^import (.*);$").matcher(source);
        while (imports.find()) {
            check(imports.group(1).equals("java.util.NoSuchElementException"), "imports " + imports.group(1));
        }
        for (int k = 0; k < source.length(); k++) {
            check(source.charAt(k) < 127, "a sign above 126");
        }
    }

    private static void lengths(List<String> lines) {
        Pattern head = Pattern.compile("( +)(?!static final class|private static final class)[\\w<>\\[\\] ]+\\([^;]*\\{");
        for (int k = 0; k < lines.size(); k++) {
            if (head.matcher(lines.get(k)).matches() && !lines.get(k).matches(" +(if|for|while|switch|\\}).*")) {
                String indent = lines.get(k).replaceAll("\\S.*", "");
                int end = k;
                while (end < lines.size() && !lines.get(end).equals(indent + "}")) {
                    end++;
                }
                check(end - k < MOST_LINES, "a long method at line " + (k + 1));
            }
        }
    }

    private static void feed(WaveRight x, String text) {
        x.end(0);
        String padded = text + "\0".repeat((20 - text.length() % 20) % 20);
        for (int at = 0; at < padded.length(); at += 20) {
            int[] five = new int[5];
            for (int k = 0; k < 20; k++) {
                five[k / 4] = five[k / 4] << 8 | padded.charAt(at + k);
            }
            x.feed(five[0], five[1], five[2], five[3], five[4]);
        }
        x.end(text.length());
    }

    private static long asked(WaveRight x, int times) {
        long sum = 0;
        for (int k = 0; k < times; k++) {
            for (int s = 0; s < 2; s++) {
                sum += x.plan(s, k % 3) + x.worth(s, 6, 6) + x.least(s, 6, 1 + k % 6) + x.reach(s, 9, 0) + x.need(s);
            }
        }
        return sum;
    }

    /** The calls make nothing, so a run has the room of its objects alone. */
    private static void room() {
        ThreadMXBean bean = (ThreadMXBean) ManagementFactory.getThreadMXBean();
        long self = Thread.currentThread().getId();
        String sea = "surfer a at 0 swims 9;surfer b at 1 swims 9;heat 60;" + "wave 9 at 1 both high 9 long 15;".repeat(10);
        String judge = "plus ride*high";
        new WaveRight().count(0);
        bean.getThreadAllocatedBytes(self);
        long before = bean.getThreadAllocatedBytes(self);
        WaveRight x = new WaveRight();
        long object = bean.getThreadAllocatedBytes(self) - before;
        check(object <= MOST_BYTES_OF_AN_OBJECT, "a new object has " + object + " bytes");
        feed(x, sea);
        x.sea();
        feed(x, judge);
        x.judge();
        x.comes();
        x.take(0, 0, 1, 0);
        x.take(1, 1, 1, 0);
        x.comes();
        x.anew();
        x.comes();
        x.take(1, 1, 1, 0);
        x.comes();
        x.seen(0);
        long sum = asked(x, 18);
        before = bean.getThreadAllocatedBytes(self);
        sum += asked(x, 18);
        for (int k = 0; k < 20; k++) {
            x.anew();
            x.comes();
            x.best(0, 0);
            x.take(0, 0, 1, 0);
            x.comes();
        }
        long calls = bean.getThreadAllocatedBytes(self) - before;
        check(calls < 4096, "the calls make " + calls + " bytes");
        check(sum != 0, "the calls answered");
    }

    public static void main(String[] args) throws IOException {
        Path main = Paths.get("src/main/java/WaveRight.java");
        String source = Files.readString(main);
        face(source, Files.readString(Paths.get("../shared/DOC.md")));
        words(source);
        lengths(Arrays.asList(source.split("\n")));
        room();
        System.out.println(wrong == 0 ? "no rule is seen broken" : wrong + " rules are broken");
        if (wrong != 0) {
            System.exit(1);
        }
    }
}
