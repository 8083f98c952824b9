import java.lang.reflect.InvocationTargetException;
import java.lang.reflect.Method;
import java.util.ArrayList;
import java.util.List;
import java.util.Map;
import java.util.TreeMap;
import java.util.regex.Matcher;
import java.util.regex.Pattern;

/** Runs of drawn calls, each answered by WaveRight and by WaveRightModel: they must answer alike. */
public final class WaveRightModelTest {
    private static final int RUNS = 1500;
    private static final int CALLS = 512;
    private static final int MOST_PRINTED = 20;

    private static long seed = 20261119L;
    private static int wrong = 0;
    private static final Map<String, Integer> ANSWERED = new TreeMap<>();
    private static final Map<String, Method> REAL = methodsOf(WaveRight.class);
    private static final Map<String, Method> TOLD = methodsOf(WaveRightModel.class);

    private WaveRight real;
    private WaveRightModel model;
    private final List<String> calls = new ArrayList<>();
    private int left = CALLS;

    private static Map<String, Method> methodsOf(Class<?> kind) {
        Map<String, Method> methods = new TreeMap<>();
        for (Method method : kind.getDeclaredMethods()) {
            if (!method.isSynthetic() && method.getReturnType() != void.class) {
                String key = method.getName() + method.getParameterCount();
                boolean numbers = true;
                for (Class<?> parameter : method.getParameterTypes()) {
                    numbers &= parameter == int.class;
                }
                if (numbers) {
                    methods.put(key, method);
                }
            }
        }
        return methods;
    }

    private static int draw(int below) {
        seed = seed * 6364136223846793005L + 1442695040888963407L;
        return (int) ((seed >>> 33) % below);
    }

    private static String answer(Method method, Object of, Object[] args) {
        try {
            return String.valueOf(method.invoke(of, args));
        } catch (InvocationTargetException e) {
            return "throws." + e.getCause().getClass().getSimpleName();
        } catch (IllegalAccessException e) {
            throw new IllegalStateException(e);
        }
    }

    /** One call on both; whether it answered without an exception. */
    private boolean call(String name, int... numbers) {
        if (left == 0) {
            return false;
        }
        left--;
        Object[] args = new Object[numbers.length];
        StringBuilder told = new StringBuilder(name).append('(');
        for (int k = 0; k < numbers.length; k++) {
            args[k] = numbers[k];
            told.append(k == 0 ? "" : ", ").append(numbers[k]);
        }
        String key = name + numbers.length;
        String is = answer(REAL.get(key), real, args);
        String due = answer(TOLD.get(key), model, args);
        calls.add(told.append(") = ").append(is).toString());
        boolean answered = !is.startsWith("throws");
        ANSWERED.merge(name + (answered ? is.startsWith("-") ? " negative" : " answered" : " " + is), 1, Integer::sum);
        if (!is.equals(due)) {
            wrong++;
            if (wrong <= MOST_PRINTED) {
                System.out.println("due is " + due + " by the last of " + calls.subList(Math.max(0, calls.size() - 12),
                        calls.size()));
            }
        }
        return answered;
    }

    private void text(String text, String into) {
        String padded = text + "\0".repeat((20 - text.length() % 20) % 20);
        call("end", 0);
        for (int at = 0; at < padded.length(); at += 20) {
            int[] five = new int[5];
            for (int k = 0; k < 20; k++) {
                five[k / 4] = five[k / 4] << 8 | padded.charAt(at + k);
            }
            call("feed", five);
        }
        call("end", text.length());
        boolean right = call(into);
        call("fault");
        if (right) {
            call("count", into.equals("sea") ? 1 : 13);
        }
    }

    // ---- drawn texts ----

    private static String blanks() {
        String[] all = {" ", " ", " ", "  ", "\n", "\t "};
        return all[draw(all.length)];
    }

    private static String maybe() {
        return draw(8) == 0 ? blanks() : "";
    }

    private static String number(int least, int most) {
        int value = draw(300) == 0 ? least - 1 + draw(2) * (most - least + 2) : least + draw(most - least + 1);
        return (draw(20) == 0 && value >= 0 && value < 10 ? "0" : "") + Math.max(0, value);
    }

    private static String drawnSea() {
        StringBuilder text = new StringBuilder();
        int surfers = 2 + draw(4) - (draw(25) == 0 ? 1 : 0) + (draw(40) == 0 ? 1 : 0);
        int near = draw(36);
        for (int k = 0; k < surfers; k++) {
            String name = draw(200) == 0 ? "at" : "" + (char) ('a' + (draw(200) == 0 ? 0 : k)) + (draw(3) == 0 ? "bcdefghij".substring(0, draw(6)) : "");
            text.append("surfer").append(blanks()).append(name).append(blanks()).append("at").append(maybe())
                    .append(number(near, Math.min(40, near + 2 + draw(8)))).append(maybe()).append("swims").append(maybe())
                    .append(number(1, draw(2) == 0 ? 9 : 3)).append(maybe()).append(';').append(maybe());
        }
        if (draw(2) == 0) {
            text.append("heat").append(number(1, 60)).append(";");
        }
        int again = draw(3);
        if (again == 0 || again == 1 && draw(2) == 0) {
            text.append("again").append(maybe()).append(number(again == 0 ? 1 : 0, again == 0 ? 8 : 30)).append(";");
        }
        int minute = 1 + draw(draw(3) == 0 ? 30 : 4);
        int many = draw(14);
        String[] ways = {"left", "right", "both", "both"};
        for (int k = 0; k < many; k++) {
            text.append("wave").append(maybe()).append(minute).append(maybe()).append("at").append(maybe())
                    .append(number(near, Math.min(40, near + 8))).append(ways[draw(4)]).append(blanks()).append("high")
                    .append(number(1, 9)).append(maybe()).append("long").append(number(1, 15)).append(';');
            minute = Math.min(99, minute + (draw(4) == 0 ? 0 : draw(6)) - (draw(300) == 0 ? 1 : 0));
        }
        return text.length() <= 400 ? text.toString() : text.substring(0, text.lastIndexOf(";", 399) + 1);
    }

    private static String part(int depth) {
        String[] words = {"high", "long", "ride", "far", "turns", "minute", "rides", "best"};
        int kind = draw(8);
        if (kind == 0 && depth < 7) {
            return "[" + maybe() + sum(depth + 1) + "]";
        }
        return kind < 4 ? number(0, draw(6) == 0 ? 9999 : 9) + " " : words[draw(8)] + " ";
    }

    private static String chain(int depth, String signs, boolean sums) {
        StringBuilder text = new StringBuilder();
        int more = draw(3) == 0 ? 1 + draw(2) : 0;
        for (int k = 0; k <= more; k++) {
            text.append(k == 0 ? "" : signs.substring(draw(2)).substring(0, 1)).append(maybe());
            text.append(sums ? chain(depth, "*/", false) : part(depth));
        }
        return text.toString();
    }

    private static String sum(int depth) {
        return chain(depth, "+-", true);
    }

    private static String truth(int depth) {
        StringBuilder text = new StringBuilder();
        int more = draw(2) == 0 ? draw(3) : 0;
        for (int k = 0; k <= more; k++) {
            text.append(k == 0 ? "" : draw(2) == 0 ? "and " : "or ");
            while (draw(5) == 0) {
                text.append("not ");
            }
            if (draw(5) == 0 && depth < 7) {
                text.append("(").append(truth(depth + 1)).append(") ");
            } else {
                text.append(sum(depth)).append("<=>".charAt(draw(3))).append(sum(depth));
            }
        }
        return text.toString();
    }

    private static String deep() {
        String open = "([[(([[";
        int many = 4 + draw(4);
        StringBuilder text = new StringBuilder("plus [ride]*2 if ");
        StringBuilder closing = new StringBuilder();
        boolean sums = false;
        for (int k = 0; k < many; k++) {
            sums |= open.charAt(draw(7)) == '[';
            text.append(sums ? '[' : '(');
            closing.insert(0, sums ? "]" : "=1)");
        }
        return text.append("high").append(closing).append(sums ? ">far" : "").toString().replace("]=1)", "]=1)");
    }

    private static String drawnJudge() {
        if (draw(12) == 0) {
            return deep();
        }
        StringBuilder text = new StringBuilder();
        int lines = draw(10) == 0 ? 8 + draw(4) : 1 + draw(3);
        for (int k = 0; k < lines; k++) {
            text.append(k == 0 ? "" : ";").append(maybe()).append(k == 0 || draw(3) != 0 ? "plus " : "less ");
            text.append(k == 0 && draw(3) != 0 ? "ride*high" : sum(0));
            if (draw(2) == 0) {
                text.append(" if ").append(truth(0));
            }
        }
        return text.length() <= 400 ? text.toString() : text.substring(0, 400);
    }

    private static String hurt(String text) {
        StringBuilder hurt = new StringBuilder(text);
        String signs = "abehiltuw0159;()[]<+* \n,A\u00e9\0";
        for (int k = draw(2); k >= 0; k--) {
            int at = draw(hurt.length() + 1);
            int kind = draw(4);
            if (kind == 0 && hurt.length() < 400) {
                hurt.insert(at, signs.charAt(draw(signs.length())));
            } else if (kind == 1 && at < hurt.length()) {
                hurt.deleteCharAt(at);
            } else if (kind == 2 && at < hurt.length()) {
                hurt.setCharAt(at, signs.charAt(draw(signs.length())));
            } else if (kind == 3) {
                hurt.setLength(at);
            }
        }
        return hurt.toString();
    }

    /** A run of the text's words, numbers and signs left out, told twice or put elsewhere. */
    private static String jumbled(String text) {
        List<String> words = new ArrayList<>();
        Matcher word = Pattern.compile("[a-z]+|[0-9]+|[^a-z0-9 \\t\\n]").matcher(text);
        while (word.find()) {
            words.add(word.group());
        }
        int from = draw(words.size() + 1);
        List<String> run = words.subList(from, Math.min(words.size(), from + 1 + draw(3)));
        List<String> copy = new ArrayList<>(run);
        int kind = draw(3);
        if (kind != 0) {
            run.clear();
        }
        if (kind != 1) {
            words.addAll(draw(words.size() + 1), copy);
        }
        String told = String.join(" ", words);
        return told.length() <= 400 ? told : told.substring(0, 400);
    }

    private static String maybeWrong(String text) {
        int kind = draw(8);
        return kind == 0 ? jumbled(text) : kind == 1 ? hurt(text) : text;
    }

    // ---- drawn calls ----

    private int surfer() {
        if (draw(3) == 0 && !model.rides.isEmpty()) {
            return model.rides.get(draw(model.rides.size())).surfer;
        }
        return draw(60) == 0 ? beyond(7) : draw(Math.max(1, model.surfers()));
    }

    private int wave() {
        return draw(60) == 0 ? beyond(22) : draw(Math.max(1, model.waves()));
    }

    private static int what(int most) {
        return draw(60) == 0 ? beyond(most + 2) : draw(most + 1);
    }

    /** A number that is none: -1, the first one above, or one of the two farthest. */
    private static int beyond(int many) {
        int[] none = {-1, many - 1, Integer.MIN_VALUE, Integer.MAX_VALUE};
        return none[draw(4)];
    }

    private void ask() {
        switch (draw(23)) {
            case 0: call("wave", wave(), what(4)); break;
            case 1: case 2: call("surfer", surfer(), what(10)); break;
            case 3: call("name", surfer(), what(6)); break;
            case 4: call("row", what(4)); break;
            case 5: call("right", surfer(), surfer()); break;
            case 6: call("hinders", surfer()); break;
            case 7: call("ride", surfer(), what(3), what(6)); break;
            case 8: case 9: call("would", surfer(), wave(), what(40), 1 + draw(draw(60) == 0 ? 22 : 20), what(9)); break;
            case 10: call("ranked", what(3)); break;
            case 11: call("need", surfer()); break;
            case 12: call("best", surfer(), what(2)); break;
            case 13: case 14: call("plan", surfer(), what(2)); break;
            case 15: call("seen", what(6)); break;
            case 16: call("worth", surfer(), what(6), what(6)); break;
            case 17: call("least", surfer(), what(6), what(6)); break;
            case 18: call("took", wave(), what(3)); break;
            case 19: call("swim", surfer(), what(40)); break;
            case 20: case 21: call("reach", surfer(), wave(), what(2)); break;
            default: call("count", what(14)); break;
        }
    }

    private void act() {
        int kind = draw(10);
        if (kind < (model.there < 0 ? 8 : 3)) {
            call("comes");
        } else if (kind < 8) {
            int s = surfer();
            if (draw(6) != 0 && call("best", s, 0) && model.best(s, 0) > 0) {
                int length = model.best(s, 0);
                call("take", s, model.best(s, 1), 1 + draw(length), what(9));
            } else {
                call("take", s, what(1), 1 + draw(draw(30) == 0 ? 22 : 5), what(9));
            }
            call("hinders", s);
        } else {
            call("goal", surfer(), what(40));
        }
    }

    private void run() {
        real = new WaveRight();
        model = new WaveRightModel();
        if (draw(10) == 0) {
            for (int k = 0; k < 10; k++) {
                ask();
                act();
            }
        }
        while (left > 0) {
            String sea = drawnSea();
            text(maybeWrong(sea), "sea");
            for (int heats = 1 + draw(3); heats > 0 && left > 0; heats--) {
                for (int k = 20 + draw(100); k > 0 && left > 0 && (!model.over || draw(5) != 0); k--) {
                    if (draw(model.rides.isEmpty() ? 2 : 3) == 0) {
                        act();
                    } else {
                        ask();
                    }
                    if (draw(50) == 0) {
                        String judge = drawnJudge();
                        text(maybeWrong(judge), "judge");
                    }
                }
                if (model.surfers() == 0) {
                    break;
                }
                call("anew");
            }
        }
    }

    public static void main(String[] args) {
        for (int k = 0; k < RUNS; k++) {
            new WaveRightModelTest().run();
        }
        if (args.length > 0) {
            System.out.println(ANSWERED);
        }
        System.out.println(wrong == 0 ? "all drawn calls are answered alike" : wrong + " drawn calls are not");
        if (wrong != 0) {
            System.exit(1);
        }
    }
}
