import java.lang.reflect.InvocationTargetException;
import java.lang.reflect.Method;
import java.util.Arrays;
import java.util.function.Supplier;

/**
 * Each refused call with the exception that the document names, of several the one told first; what can be asked, and
 * what stands on the tape, is behind it as if the call had not been made. (Refused texts: WaveRightTextEdgesTest.)
 */
public final class WaveRightRefusedTest extends Due {
    private static final int LEFT = 0;
    private static final int RIGHT = 1;
    private static final int LEAST = Integer.MIN_VALUE;
    private static final int MOST = Integer.MAX_VALUE;
    private static final String SEA = "surfer a at 20 swims 9;surfer b at 20 swims 9;surfer c at 20 swims 1;"
            + "surfer d at 20 swims 9;heat 9;wave 1 at 20 both high 3 long 15;wave 3 at 20 both high 4 long 15;"
            + "wave 5 at 20 left high 5 long 15;wave 9 at 20 both high 6 long 15;";

    // who is what in the midst of the heat
    private static final int IS_OUT = 0;
    private static final int ON_WAVE = 1;
    private static final int SWIMS_BACK = 2;
    private static final int SENT_IN = 3;
    private static final int NOBODY = 4;
    private static final int WENT_BY = 0;
    private static final int THERE = 2;
    private static final int TO_COME = 3;
    private static final int NO_WAVE = 4;

    private static WaveRight atFirst() {
        return judged(SEA, "plus ride*high+turns");
    }

    /** Wave 2 is there; the four are OUT, on it, on the way back till 13, and SENT IN. */
    private static WaveRight amid() {
        WaveRight x = atFirst();
        x.comes();
        x.take(0, LEFT, 1, 0);
        x.take(3, LEFT, 1, 0);
        x.comes();
        x.take(2, RIGHT, 9, 2);
        x.take(3, RIGHT, 1, 0);
        x.comes();
        x.take(1, LEFT, 2, 3);
        return x;
    }

    private static WaveRight over() {
        WaveRight x = amid();
        x.comes();
        x.comes();
        return x;
    }

    private static void no(Supplier<WaveRight> begin, long by, String name, int... numbers) {
        Object[] args = Arrays.stream(numbers).boxed().toArray();
        Class<?>[] kinds = new Class<?>[numbers.length];
        Arrays.fill(kinds, int.class);
        refused(begin, name + Arrays.toString(numbers), x -> made(x, name, kinds, args), by);
    }

    private static long made(WaveRight x, String name, Class<?>[] kinds, Object[] args) {
        try {
            Method method = WaveRight.class.getMethod(name, kinds);
            return ((Number) method.invoke(x, args)).longValue();
        } catch (InvocationTargetException e) {
            throw (RuntimeException) e.getCause();
        } catch (ReflectiveOperationException e) {
            throw new UnsupportedOperationException(name, e);
        }
    }

    private static void theStates() {
        sentence("the state that the refused calls are told by");
        WaveRight x = amid();
        due("OUT", x.count(9), 1 << IS_OUT);
        due("on the WAVE", x.count(14), 1 << ON_WAVE);
        due("BACK", x.surfer(SWIMS_BACK, 4), 13);
        due("HINDERINGS", x.surfer(SENT_IN, 5), 2);
        due("the WAVE that is there", x.count(6), THERE);
        due("SEEN", x.seen(1), 3);
        due("OVER", over().count(7), 1);
        due("questions in all", all(amid()).size() < 400 ? 1 : 0, 1);
    }

    private static void noSuch() {
        sentence("IndexOutOfBoundsException: there is no such SURFER, WAVE (ahead of all others)");
        for (int none : new int[] {NOBODY, -1, LEAST, MOST}) {
            no(WaveRightRefusedTest::amid, INDEX, "surfer", none, 11);
            no(WaveRightRefusedTest::amid, INDEX, "surfer", none, 0);
            no(WaveRightRefusedTest::amid, INDEX, "name", none, 0);
            no(WaveRightRefusedTest::amid, INDEX, "goal", none, 41);
            no(WaveRightRefusedTest::amid, INDEX, "goal", none, 20);
            no(WaveRightRefusedTest::amid, INDEX, "take", none, 2, 0, 10);
            no(WaveRightRefusedTest::amid, INDEX, "take", none, 0, 1, 0);
            no(WaveRightRefusedTest::amid, INDEX, "right", none, none);
            no(WaveRightRefusedTest::amid, INDEX, "right", none, 0);
            no(WaveRightRefusedTest::amid, INDEX, "right", 0, none);
            no(WaveRightRefusedTest::over, INDEX, "right", 0, none);
            no(WaveRightRefusedTest::amid, INDEX, "hinders", none);
            no(WaveRightRefusedTest::amid, INDEX, "ride", none, 9, 9);
            no(WaveRightRefusedTest::amid, INDEX, "ride", none, 0, 0);
            no(WaveRightRefusedTest::amid, INDEX, "would", none, 0, 41, 0, 10);
            no(WaveRightRefusedTest::amid, INDEX, "would", none, 0, 20, 1, 0);
            no(WaveRightRefusedTest::amid, INDEX, "would", 0, none, 41, 0, 10);
            no(WaveRightRefusedTest::amid, INDEX, "would", 0, none, 20, 1, 0);
            no(WaveRightRefusedTest::amid, INDEX, "need", none);
            no(WaveRightRefusedTest::amid, INDEX, "best", none, 3);
            no(WaveRightRefusedTest::amid, INDEX, "best", none, 0);
            no(WaveRightRefusedTest::amid, INDEX, "plan", none, 3);
            no(WaveRightRefusedTest::over, INDEX, "plan", none, 0);
            no(WaveRightRefusedTest::amid, INDEX, "worth", none, 7, 7);
            no(WaveRightRefusedTest::atFirst, INDEX, "worth", none, 0, 0);
            no(WaveRightRefusedTest::amid, INDEX, "least", none, 7, 0);
            no(WaveRightRefusedTest::atFirst, INDEX, "least", none, 0, 1);
            no(WaveRightRefusedTest::amid, INDEX, "swim", none, 41);
            no(WaveRightRefusedTest::amid, INDEX, "swim", none, 20);
            no(WaveRightRefusedTest::amid, INDEX, "reach", none, TO_COME, 3);
            no(WaveRightRefusedTest::amid, INDEX, "reach", none, TO_COME, 0);
        }
        for (int none : new int[] {NO_WAVE, -1, LEAST, MOST}) {
            no(WaveRightRefusedTest::amid, INDEX, "wave", none, 5);
            no(WaveRightRefusedTest::amid, INDEX, "wave", none, 0);
            no(WaveRightRefusedTest::amid, INDEX, "took", none, 4);
            no(WaveRightRefusedTest::amid, INDEX, "took", none, 0);
            no(WaveRightRefusedTest::amid, INDEX, "reach", 0, none, 3);
            no(WaveRightRefusedTest::amid, INDEX, "reach", SENT_IN, none, 0);
        }
        sentence("IndexOutOfBoundsException of a new object");
        no(WaveRight::new, INDEX, "wave", 0, 5);
        no(WaveRight::new, INDEX, "surfer", 0, 11);
        no(WaveRight::new, INDEX, "goal", 0, 41);
        no(WaveRight::new, INDEX, "take", 0, 2, 0, 0);
        no(WaveRight::new, INDEX, "right", 0, 0);
        no(WaveRight::new, INDEX, "would", 0, 0, 41, 0, 0);
        no(WaveRight::new, INDEX, "plan", 0, 3);
        no(WaveRight::new, INDEX, "worth", 0, 7, 7);
        no(WaveRight::new, INDEX, "reach", 0, 0, 3);
        no(WaveRight::new, ELEMENT, "ranked", 0);
        no(WaveRight::new, STATE, "anew");
    }

    private static void anotherWhat() {
        sentence("NoSuchElementException: there is none such, another what (ahead of IllegalStateException)");
        for (int none : new int[] {-1, LEAST, MOST}) {
            no(WaveRightRefusedTest::amid, ELEMENT, "wave", 0, none);
            no(WaveRightRefusedTest::amid, ELEMENT, "surfer", 0, none);
            no(WaveRightRefusedTest::amid, ELEMENT, "ride", 0, 0, none);
            no(WaveRightRefusedTest::amid, ELEMENT, "ride", 0, none, 0);
            no(WaveRightRefusedTest::amid, ELEMENT, "ranked", none);
            no(WaveRightRefusedTest::amid, ELEMENT, "took", WENT_BY, none);
            no(WaveRightRefusedTest::amid, ELEMENT, "best", IS_OUT, none);
            no(WaveRightRefusedTest::amid, ELEMENT, "plan", IS_OUT, none);
            no(WaveRightRefusedTest::amid, ELEMENT, "reach", IS_OUT, TO_COME, none);
        }
        no(WaveRightRefusedTest::amid, ELEMENT, "wave", 0, 5);
        no(WaveRightRefusedTest::amid, ELEMENT, "surfer", 0, 11);
        no(WaveRightRefusedTest::amid, ELEMENT, "ride", 0, 0, 7);
        no(WaveRightRefusedTest::amid, ELEMENT, "ride", 0, 1, 0);
        no(WaveRightRefusedTest::amid, ELEMENT, "ride", ON_WAVE, 0, 0);
        no(WaveRightRefusedTest::amid, ELEMENT, "ride", SENT_IN, 2, 0);
        no(WaveRightRefusedTest::amid, ELEMENT, "ranked", NOBODY);
        no(WaveRightRefusedTest::amid, ELEMENT, "took", WENT_BY, 4);
        no(WaveRightRefusedTest::amid, ELEMENT, "took", THERE, 0);
        no(WaveRightRefusedTest::amid, ELEMENT, "took", TO_COME, 0);
        no(WaveRightRefusedTest::atFirst, ELEMENT, "took", 0, 0);
        for (int surfer : new int[] {IS_OUT, ON_WAVE, SWIMS_BACK, SENT_IN}) {
            no(WaveRightRefusedTest::amid, ELEMENT, "best", surfer, 3);
            no(WaveRightRefusedTest::over, ELEMENT, "best", surfer, 3);
            no(WaveRightRefusedTest::amid, ELEMENT, "plan", surfer, 3);
            no(WaveRightRefusedTest::over, ELEMENT, "plan", surfer, 3);
            no(WaveRightRefusedTest::amid, ELEMENT, "reach", surfer, TO_COME, 3);
            no(WaveRightRefusedTest::amid, ELEMENT, "reach", surfer, THERE, 0);
            no(WaveRightRefusedTest::amid, ELEMENT, "reach", surfer, WENT_BY, 0);
        }
    }

    private static void noneSuch() {
        sentence("IllegalArgumentException: a number is none (ahead of IllegalStateException)");
        for (int surfer : new int[] {IS_OUT, ON_WAVE, SWIMS_BACK, SENT_IN}) {
            for (int none : new int[] {-1, 41, LEAST, MOST}) {
                no(WaveRightRefusedTest::amid, ARGUMENT, "goal", surfer, none);
                no(WaveRightRefusedTest::amid, ARGUMENT, "swim", surfer, none);
            }
            no(WaveRightRefusedTest::amid, ARGUMENT, "take", surfer, 2, 1, 0);
            no(WaveRightRefusedTest::amid, ARGUMENT, "take", surfer, 0, 21, 0);
            no(WaveRightRefusedTest::amid, ARGUMENT, "take", surfer, 0, 1, 10);
            no(WaveRightRefusedTest::over, ARGUMENT, "take", surfer, -1, 1, 0);
            no(WaveRightRefusedTest::amid, ARGUMENT, "right", surfer, surfer);
            no(WaveRightRefusedTest::over, ARGUMENT, "right", surfer, surfer);
        }
        for (int none : new int[] {LEAST, MOST}) {
            no(WaveRightRefusedTest::amid, ARGUMENT, "take", IS_OUT, none, 1, 0);
            no(WaveRightRefusedTest::amid, ARGUMENT, "take", IS_OUT, 0, none, 0);
            no(WaveRightRefusedTest::amid, ARGUMENT, "take", IS_OUT, 0, 1, none);
            no(WaveRightRefusedTest::amid, ARGUMENT, "would", IS_OUT, 0, none, 1, 0);
            no(WaveRightRefusedTest::amid, ARGUMENT, "would", IS_OUT, 0, 0, none, 0);
            no(WaveRightRefusedTest::amid, ARGUMENT, "would", IS_OUT, 0, 0, 1, none);
        }
        no(WaveRightRefusedTest::amid, ARGUMENT, "take", IS_OUT, 0, 0, 0);
        no(WaveRightRefusedTest::amid, ARGUMENT, "take", IS_OUT, 0, -1, 0);
        no(WaveRightRefusedTest::amid, ARGUMENT, "take", IS_OUT, 0, 1, -1);
        no(WaveRightRefusedTest::amid, ARGUMENT, "would", IS_OUT, 0, 41, 1, 0);
        no(WaveRightRefusedTest::amid, ARGUMENT, "would", IS_OUT, 0, -1, 1, 0);
        no(WaveRightRefusedTest::amid, ARGUMENT, "would", IS_OUT, 0, 0, 0, 0);
        no(WaveRightRefusedTest::amid, ARGUMENT, "would", IS_OUT, 0, 0, 21, 0);
        no(WaveRightRefusedTest::amid, ARGUMENT, "would", IS_OUT, 0, 0, 1, -1);
        no(WaveRightRefusedTest::amid, ARGUMENT, "would", IS_OUT, 0, 0, 1, 10);
        for (int none : new int[] {-1, 7, LEAST, MOST}) {
            no(WaveRightRefusedTest::amid, ARGUMENT, "worth", IS_OUT, none, 0);
            no(WaveRightRefusedTest::amid, ARGUMENT, "worth", IS_OUT, 0, none);
            no(WaveRightRefusedTest::atFirst, ARGUMENT, "worth", IS_OUT, none, 0);
            no(WaveRightRefusedTest::amid, ARGUMENT, "least", IS_OUT, none, 1);
            no(WaveRightRefusedTest::amid, ARGUMENT, "least", IS_OUT, 0, none);
            no(WaveRightRefusedTest::atFirst, ARGUMENT, "least", IS_OUT, 0, none);
        }
        no(WaveRightRefusedTest::amid, ARGUMENT, "least", IS_OUT, 0, 0);
        no(WaveRightRefusedTest::atFirst, ARGUMENT, "least", IS_OUT, 0, 0);
    }

    private static void itCannotBe() {
        sentence("IllegalStateException: it cannot be");
        for (int surfer : new int[] {ON_WAVE, SWIMS_BACK, SENT_IN}) {
            no(WaveRightRefusedTest::amid, STATE, "goal", surfer, 20);
            no(WaveRightRefusedTest::amid, STATE, "take", surfer, LEFT, 1, 0);
            no(WaveRightRefusedTest::amid, STATE, "best", surfer, 0);
        }
        for (int surfer : new int[] {ON_WAVE, SENT_IN}) {
            no(WaveRightRefusedTest::amid, STATE, "plan", surfer, 0);
            no(WaveRightRefusedTest::amid, STATE, "swim", surfer, 20);
            no(WaveRightRefusedTest::amid, STATE, "reach", surfer, TO_COME, 0);
        }
        no(WaveRightRefusedTest::amid, STATE, "take", IS_OUT, RIGHT, 1, 0);
        no(WaveRightRefusedTest::amid, STATE, "take", IS_OUT, LEFT, 16, 0);
        no(WaveRightRefusedTest::amid, STATE, "take", IS_OUT, LEFT, 20, 9);
        for (int surfer = 0; surfer < NOBODY; surfer++) {
            no(WaveRightRefusedTest::atFirst, STATE, "take", surfer, LEFT, 1, 0);
            no(WaveRightRefusedTest::over, STATE, "take", surfer, LEFT, 1, 0);
            no(WaveRightRefusedTest::atFirst, STATE, "right", surfer, 3 - surfer);
            no(WaveRightRefusedTest::over, STATE, "right", surfer, 3 - surfer);
            no(WaveRightRefusedTest::atFirst, STATE, "best", surfer, 0);
            no(WaveRightRefusedTest::over, STATE, "best", surfer, 0);
            no(WaveRightRefusedTest::over, STATE, "plan", surfer, 0);
            no(WaveRightRefusedTest::atFirst, STATE, "worth", surfer, 0, 0);
            no(WaveRightRefusedTest::atFirst, STATE, "worth", surfer, 6, 6);
            no(WaveRightRefusedTest::atFirst, STATE, "least", surfer, 0, 1);
            no(WaveRightRefusedTest::atFirst, STATE, "least", surfer, 6, 6);
        }
        no(WaveRightRefusedTest::over, STATE, "goal", SWIMS_BACK, 20);
        no(WaveRightRefusedTest::over, STATE, "goal", SENT_IN, 20);
        no(WaveRightRefusedTest::over, STATE, "swim", SENT_IN, 20);
    }

    /** A heat of two, so that all can be asked twice within 512 calls: after so many comes(), each taken by the first one. */
    private static WaveRight small(int comes) {
        WaveRight x = sea("surfer a at 20 swims 9;surfer b at 20 swims 5;wave 1 at 20 both high 3 long 15;"
                + "wave 4 at 20 both high 4 long 15;");
        for (int k = 0; k < comes; k++) {
            if (x.comes() != WaveRight.NONE) {
                x.take(0, LEFT, 2, k);
            }
        }
        return x;
    }

    private static void questions() {
        sentence("a question that is answered changes nothing either");
        for (int comes = 0; comes <= 3; comes++) {
            WaveRight x = small(comes);
            same("all questions asked twice, " + comes + " comes() ahead", all(x), all(x));
        }
        due("a call that is not refused", answer(() -> amid().take(IS_OUT, LEFT, 15, 9)), 5);
        due("a goal that is not refused", answer(() -> amid().goal(IS_OUT, 40)), 20);
        due("a plan that is not refused", answer(() -> amid().plan(SWIMS_BACK, 0)), 38);
        due("a swim that is not refused", answer(() -> amid().swim(SWIMS_BACK, 21)), 14);
        due("a reach that is not refused", answer(() -> amid().reach(IS_OUT, TO_COME, 0)), 29);
    }

    public static void main(String[] args) {
        theStates();
        noSuch();
        anotherWhat();
        noneSuch();
        itCannotBe();
        questions();
        finish();
    }
}
