import java.util.ArrayList;
import java.util.List;
import java.util.NoSuchElementException;
import java.util.function.LongSupplier;
import java.util.function.Supplier;
import java.util.function.ToLongFunction;

/** What the tests share: texts onto the tape, an answer against the one that is due, calls that are refused. */
class Due {
    static final long INDEX = -1001;
    static final long ARGUMENT = -1002;
    static final long STATE = -1003;
    static final long ELEMENT = -1004;
    static final long ANOTHER = -1005;

    /** A sea that stands on the tape in two parts, so that one sees what a call between them did to it. */
    private static final String HALF = "surfer q at 3 swims ";
    private static final String REST = "2;surfer r at 4 swims 5;";

    private static int wrong = 0;
    private static String told = "";

    Due() {
    }

    /** Begins a test of its own: the sentence of the document that it holds. */
    static void sentence(String text) {
        told = text;
    }

    static void due(String call, long is, long due) {
        if (is != due) {
            wrong++;
            System.out.println("[" + told + "] " + call + " answered " + is + ", due is " + due);
        }
    }

    static void is(String call, LongSupplier made, long due) {
        due(call, answer(made), due);
    }

    /** The answer of a call; of one that throws which of the document's exceptions it was, by its very class. */
    static long answer(LongSupplier made) {
        try {
            return made.getAsLong();
        } catch (RuntimeException e) {
            return e.getClass() == IndexOutOfBoundsException.class ? INDEX
                    : e.getClass() == IllegalArgumentException.class ? ARGUMENT
                    : e.getClass() == IllegalStateException.class ? STATE
                    : e.getClass() == NoSuchElementException.class ? ELEMENT : ANOTHER;
        }
    }

    static void finish() {
        System.out.println(wrong == 0 ? "all answers are as due" : wrong + " answers are not as due");
        if (wrong != 0) {
            System.exit(1);
        }
    }

    // ---- texts ----

    static void write(WaveRight x, String text) {
        x.end(0);
        append(x, text, 0);
    }

    /** Puts a text behind the first bytes of the tape. */
    static void append(WaveRight x, String text, int behind) {
        String padded = text + "\0".repeat((20 - text.length() % 20) % 20);
        for (int at = 0; at < padded.length(); at += 20) {
            int[] five = new int[5];
            for (int k = 0; k < 20; k++) {
                five[k / 4] = five[k / 4] << 8 | padded.charAt(at + k);
            }
            x.feed(five[0], five[1], five[2], five[3], five[4]);
        }
        x.end(behind + text.length());
    }

    static WaveRight sea(String text) {
        WaveRight x = new WaveRight();
        write(x, text);
        x.sea();
        return x;
    }

    static WaveRight judged(String sea, String judge) {
        WaveRight x = sea(sea);
        judgeBy(x, judge);
        return x;
    }

    static void judgeBy(WaveRight x, String judge) {
        write(x, judge);
        x.judge();
    }

    // ---- what a call changed ----

    /** All that can be asked of x without a change (of at most 4 surfers and 4 waves: some 300 calls). */
    static List<Long> all(WaveRight x) {
        List<Long> answers = new ArrayList<>();
        answers.add((long) x.fault());
        for (int k = -1; k < 16; k++) {
            answers.add((long) x.count(k));
        }
        for (int k = 0; k < 7; k++) {
            answers.add((long) x.seen(k));
        }
        for (int k = 0; k < 5; k++) {
            int at = k;
            answers.add((long) x.row(k));
            answers.add(answer(() -> x.ranked(at)));
        }
        for (int wave = 0; wave < x.count(1); wave++) {
            allOfWave(x, wave, answers);
        }
        for (int surfer = 0; surfer < x.count(0); surfer++) {
            allOfSurfer(x, surfer, answers);
        }
        return answers;
    }

    private static void allOfWave(WaveRight x, int wave, List<Long> answers) {
        for (int k = 0; k < 5; k++) {
            answers.add((long) x.wave(wave, k));
        }
        for (int k = 0; k < 4; k++) {
            int what = k;
            answers.add(answer(() -> x.took(wave, what)));
        }
    }

    private static void allOfSurfer(WaveRight x, int surfer, List<Long> answers) {
        for (int k = 0; k < 11; k++) {
            answers.add((long) x.surfer(surfer, k));
        }
        answers.add((long) x.name(surfer, 0));
        answers.add((long) x.hinders(surfer));
        answers.add((long) x.need(surfer));
        for (int k = 0; k < 3; k++) {
            int what = k;
            answers.add(answer(() -> x.best(surfer, what)));
            answers.add(answer(() -> x.plan(surfer, what)));
        }
        for (int k = 0; k < surfer; k++) {
            int other = k;
            answers.add(answer(() -> x.right(surfer, other)));
        }
        for (int k = 0; k < x.surfer(surfer, 6); k++) {
            for (int what = 0; what < 7; what++) {
                answers.add((long) x.ride(surfer, k, what));
            }
        }
        for (int k = 0; k < x.count(1); k++) {
            int wave = k;
            answers.add(answer(() -> x.reach(surfer, wave, 0)));
        }
        answers.add(answer(() -> x.would(surfer, 0, 20, 3, 2)));
        answers.add(answer(() -> x.swim(surfer, 20)));
        answers.add(answer(() -> x.worth(surfer, 2, 2)));
        answers.add(answer(() -> x.least(surfer, 2, 1)));
    }

    static void same(String call, List<Long> is, List<Long> due) {
        due(call + ": how much there is to ask", is.size(), due.size());
        for (int k = 0; k < is.size() && k < due.size(); k++) {
            due(call + ": question " + k + " behind it", is.get(k), due.get(k));
        }
    }

    /** A call that throws and changes nothing: what can be asked, and what stands on the tape, is as without it. */
    static void refused(Supplier<WaveRight> begin, String call, ToLongFunction<WaveRight> made, long by) {
        WaveRight x = begin.get();
        WaveRight untouched = begin.get();
        write(x, HALF);
        is(call, () -> made.applyAsLong(x), by);
        same(call, all(x), all(untouched));
        append(x, REST, HALF.length());
        is(call + ", then the sea of the tape", x::sea, 0);
        due(call + ", then the first name", x.name(0, 0), 'q');
        due(call + ", then the second name", x.name(1, 0), 'r');
    }
}
