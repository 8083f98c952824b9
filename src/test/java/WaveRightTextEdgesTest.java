import java.util.List;
import java.util.Locale;
import java.util.function.Consumer;

/**
 * The bounds of the two texts, sentence by sentence (promises 1 to 6, THE SEA, THE JUDGE, BLANKS, THE FAULT). A text
 * is told with ^ where its fault is due (the ^ is no part of it), without ^ if it is right.
 */
public final class WaveRightTextEdgesTest extends Due {
    private static final String TWO = "surfer a at 1 swims 1;surfer b at 2 swims 2;";
    private static final String WAVE = "wave 5 at 6 left high 7 long 8;";

    // all words of the texts, a number, NAMES, signs, and some that are none
    private static final String SEA_WORDS = "surfer at swims heat again wave left right both high long a b plus 7 ; # [";
    private static final String JUDGE_WORDS = "plus less if and or not high long ride far turns minute rides best 1 [ ] ( )"
            + " + - * / < = > ; wave x #";
    private static final String LINES = "surfer heat again wave";
    private static final String NAMES = "a b plus";
    private static final String PARTS = "1 [ high long ride far turns minute rides best";
    private static final String ATOMS = "not ( " + PARTS;

    private static int fault(String marked) {
        return marked.indexOf('^');
    }

    private static String plain(String marked) {
        return marked.replace("^", "");
    }

    private static int waves(String text) {
        return text.split("wave *[0-9]", -1).length - 1;
    }

    /** A sea on a new object, with its fault and what is so behind it. */
    private static WaveRight theSea(String marked) {
        String text = plain(marked);
        WaveRight x = new WaveRight();
        write(x, text);
        is("sea of " + marked, x::sea, fault(marked) == -1 ? waves(text) : ARGUMENT);
        due("fault of " + marked, x.fault(), fault(marked));
        due("HEAT OVER behind " + marked, x.count(7), fault(marked) == -1 ? 0 : 1);
        is("anew behind " + marked, x::anew, fault(marked) == -1 ? x.count(0) : STATE);
        due("the tape behind " + marked, x.feed(0, 0, 0, 0, 0), 20);
        return x;
    }

    /** A judge on a new object: one that is wrong leaves no text. */
    private static WaveRight theJudge(String marked) {
        String text = plain(marked);
        WaveRight x = new WaveRight();
        write(x, text);
        int lines = text.split(";", -1).length;
        is("judge of " + marked, x::judge, fault(marked) == -1 ? lines : ARGUMENT);
        due("fault of " + marked, x.fault(), fault(marked));
        due("LINES behind " + marked, x.count(13), fault(marked) == -1 ? lines : WaveRight.NONE);
        due("the tape behind " + marked, x.feed(0, 0, 0, 0, 0), 20);
        return x;
    }

    // ---- the tape ----

    private static void newObject() {
        sentence("At first there are no SURFERS, no WAVES, and the HEAT is OVER");
        int[] counts = {-1, 0, 0, 0, 0, 30, 0, -1, 1, 0, 0, 0, 0, 0, -1, 0, -1, -1};
        for (int k = 0; k < counts.length; k++) {
            due("count(" + (k - 1) + ")", new WaveRight().count(k - 1), counts[k]);
        }
        WaveRight x = new WaveRight();
        due("fault()", x.fault(), -1);
        due("seen(0)", x.seen(0), -1);
        due("row(0)", x.row(0), -1);
        due("comes()", x.comes(), -1);
        due("comes() once more", x.comes(), -1);
        due("feed", x.feed(1, 2, 3, 4, 5), 20);
        sentence("IndexOutOfBoundsException: there is no such SURFER, WAVE");
        is("wave(0, 0)", () -> x.wave(0, 0), INDEX);
        is("surfer(0, 0)", () -> x.surfer(0, 0), INDEX);
        is("name(0, 0)", () -> x.name(0, 0), INDEX);
        is("goal(0, 0)", () -> x.goal(0, 0), INDEX);
        is("take(0, 0, 1, 0)", () -> x.take(0, 0, 1, 0), INDEX);
        is("right(0, 1)", () -> x.right(0, 1), INDEX);
        is("hinders(0)", () -> x.hinders(0), INDEX);
        is("ride(0, 0, 0)", () -> x.ride(0, 0, 0), INDEX);
        is("would(0, 0, 0, 1, 0)", () -> x.would(0, 0, 0, 1, 0), INDEX);
        is("need(0)", () -> x.need(0), INDEX);
        is("best(0, 0)", () -> x.best(0, 0), INDEX);
        is("plan(0, 0)", () -> x.plan(0, 0), INDEX);
        is("worth(0, 0, 0)", () -> x.worth(0, 0, 0), INDEX);
        is("least(0, 0, 1)", () -> x.least(0, 0, 1), INDEX);
        is("took(0, 0)", () -> x.took(0, 0), INDEX);
        is("swim(0, 0)", () -> x.swim(0, 0), INDEX);
        is("reach(0, 0, 0)", () -> x.reach(0, 0, 0), INDEX);
        sentence("The RANK that is told: NoSuchElementException: there is none such");
        is("ranked(0)", () -> x.ranked(0), ELEMENT);
        sentence("IllegalStateException: there is no SEA");
        is("anew()", x::anew, STATE);
    }

    private static void feeds() {
        sentence("Twenty bytes come behind the TAPE: how many it has");
        WaveRight x = new WaveRight();
        for (int k = 1; k < 20; k++) {
            due("feed " + k, x.feed(0x20202020, 0x20202020, 0x20202020, 0x20202020, 0x20202020), 20 * k);
        }
        sentence("NONE, and none come, if it would have more than 400");
        due("end(380)", x.end(380) ? 1 : 0, 1);
        due("feed up to 400", x.feed(0x20202020, 0x20202020, 0x20202020, 0x20202020, 0x20202020), 400);
        due("feed beyond 400", x.feed(0, 0, 0, 0, 0), -1);
        due("end(381)", x.end(381) ? 1 : 0, 1);
        due("feed up to 401", x.feed(0, 0, 0, 0, 0), -1);
        due("end(382)", x.end(382) ? 1 : 0, 0);
        due("end(381) once more", x.end(381) ? 1 : 0, 1);
        is("judge of blanks alone", x::judge, ARGUMENT);
        due("fault: none of the bytes that were too many came", x.fault(), 381);

        sentence("of each number the highest first");
        WaveRight y = new WaveRight();
        y.feed(0x706c7573, 0x20686967, 0x682b7475, 0x726e732b, 0x72696465);
        due("judge of plus high+turns+ride", y.judge(), 1);
        for (int k = 0; k < 20; k++) {
            int[] five = {0x20202020, 0x20202020, 0x20202020, 0x20202020, 0x20202020};
            five[k / 4] = 0x20202020 & ~(0xff << 24 - k % 4 * 8);
            y.feed(five[0], five[1], five[2], five[3], five[4]);
            is("judge of blanks with a byte 0", y::judge, ARGUMENT);
            due("fault at the byte 0 of place " + k, y.fault(), k);
        }
        y.feed(-1, -1, -1, -1, -1);
        is("judge of bytes 255", y::judge, ARGUMENT);
        due("fault of bytes 255", y.fault(), 0);
        y.feed(0x706c7573, 0x20318080, 0x80808080, 0x80808080, 0x80808080);
        is("judge of plus 1 and bytes 128", y::judge, ARGUMENT);
        due("fault of bytes 128", y.fault(), 6);
    }

    private static void ends() {
        WaveRight x = new WaveRight();
        sentence("false, and nothing happens, if it has fewer, or n is below 0");
        due("end(0) of an empty tape", x.end(0) ? 1 : 0, 1);
        due("end(1) of an empty tape", x.end(1) ? 1 : 0, 0);
        due("feed", x.feed(0x706c7573, 0x20313233, 0x20202020, 0x20202020, 0x20202020), 20);
        due("end(21)", x.end(21) ? 1 : 0, 0);
        due("end(-1)", x.end(-1) ? 1 : 0, 0);
        due("end of the least int", x.end(Integer.MIN_VALUE) ? 1 : 0, 0);
        due("end of the greatest int", x.end(Integer.MAX_VALUE) ? 1 : 0, 0);
        due("feed behind refused ends", x.feed(0, 0, 0, 0, 0), 40);
        sentence("The TAPE has its first n bytes alone: true");
        due("end(40)", x.end(40) ? 1 : 0, 1);
        due("end(20)", x.end(20) ? 1 : 0, 1);
        due("end(6)", x.end(6) ? 1 : 0, 1);
        due("end(7)", x.end(7) ? 1 : 0, 0);
        due("feed behind the cut", x.feed(0x3b6c6573, 0x73203100, 0, 0, 0), 26);
        due("end(13)", x.end(13) ? 1 : 0, 1);
        due("judge of plus 1;less 1", x.judge(), 2);
        due("end(1) of a tape that is used up", x.end(1) ? 1 : 0, 0);
        due("feed behind a judge", x.feed(0, 0, 0, 0, 0), 20);
        due("end(0)", x.end(0) ? 1 : 0, 1);
        is("sea of an empty tape", x::sea, ARGUMENT);
        due("fault", x.fault(), 0);
    }

    // ---- the sea ----

    private static void surfers() {
        sentence("SURFERS (2 to 5; numbered as they come)");
        theSea("^");
        theSea("surfer a at 1 swims 1;^");
        theSea(TWO);
        WaveRight x = theSea(TWO + "surfer c at 3 swims 3;surfer d at 4 swims 4;surfer e at 5 swims 5;");
        for (int k = 0; k < 5; k++) {
            due("NAME of " + k, x.name(k, 0), 'a' + k);
            due("PLACE of " + k, x.surfer(k, 0), k + 1);
            due("SWIMS of " + k, x.surfer(k, 1), k + 1);
        }
        is("surfer(5, 0)", () -> x.surfer(5, 0), INDEX);
        theSea(TWO + "surfer c at 3 swims 3;surfer d at 4 swims 4;surfer e at 5 swims 5;^surfer f at 6 swims 6;");
        theSea(TWO + "surfer c at 3 swims 3;surfer d at 4 swims 4;" + WAVE + "surfer e at 5 swims 5;heat 9;^surfer");
        sentence("a PLACE (at, 0 to 40)");
        due("PLACE 0", theSea("surfer a at 0 swims 1;surfer b at 40 swims 2;").surfer(0, 0), 0);
        due("PLACE 40", theSea("surfer a at 0 swims 1;surfer b at 40 swims 2;").surfer(1, 0), 40);
        theSea("surfer a at ^41 swims 1;surfer b at 1 swims 2;");
        theSea("surfer a at ^99 swims 1;surfer b at 1 swims 2;");
        theSea("surfer a at ^-1 swims 1;surfer b at 1 swims 2;");
        sentence("SWIMS (1 to 9 PLACES in a MINUTE)");
        due("SWIMS 1", theSea("surfer a at 0 swims 1;surfer b at 40 swims 9;").surfer(0, 1), 1);
        due("SWIMS 9", theSea("surfer a at 0 swims 1;surfer b at 40 swims 9;").surfer(1, 1), 9);
        theSea("surfer a at 0 swims ^0;surfer b at 1 swims 2;");
        theSea("surfer a at 0 swims ^00;surfer b at 1 swims 2;");
        theSea("surfer a at 0 swims ^10;surfer b at 1 swims 2;");
    }

    private static void heats() {
        sentence("heat: HEAT (1 to 60 MINUTES; 30 without)");
        due("HEAT without", theSea(TWO).count(4), 30);
        due("HEAT 1", theSea(TWO + "heat 1;").count(4), 1);
        due("HEAT 60", theSea("heat 60;" + TWO).count(4), 60);
        theSea(TWO + "heat ^0;");
        theSea(TWO + "heat ^61;");
        sentence("again: AGAIN (0 to 30; 0 without)");
        due("AGAIN without", theSea(TWO).count(5), 0);
        due("AGAIN 0", theSea(TWO + "again 0;").count(5), 0);
        due("AGAIN 30", theSea(TWO + "again 30;").count(5), 30);
        theSea(TWO + "again ^31;");
        theSea(TWO + "again ^99;");
        sentence("each once at most");
        theSea("heat 5;" + TWO + "again 5;");
        theSea("heat 5;" + TWO + "^heat 5;");
        theSea("again 0;" + TWO + "^again 1;");
        theSea("heat 5;again 1;" + TWO + WAVE + "^heat");
        theSea("heat 30;^heat 30;");
        theSea("again 0;^again 0;");
        WaveRight x = theSea("heat 7;again 8;" + TWO);
        write(x, TWO);
        x.sea();
        due("HEAT of a sea without, behind one with it", x.count(4), 30);
        due("AGAIN of a sea without, behind one with it", x.count(5), 0);
        write(x, "heat 7;again 8;" + TWO);
        is("heat and again told in two seas", x::sea, 0);
    }

    private static void waves() {
        sentence("a MINUTE (1 to 99, not below that of the WAVE ahead)");
        theSea(TWO + "wave ^0 at 6 left high 7 long 8;");
        due("MINUTE 1", theSea(TWO + "wave 1 at 6 left high 7 long 8;").wave(0, 0), 1);
        due("MINUTE 99", theSea(TWO + "wave 99 at 6 left high 7 long 8;").wave(0, 0), 99);
        theSea(TWO + "wave ^100 at 6 left high 7 long 8;");
        theSea(TWO + WAVE + WAVE);
        theSea(TWO + WAVE + "wave ^4 at 6 left high 7 long 8;");
        theSea(TWO + WAVE + "heat 2;" + "wave ^04 at 6 left high 7 long 8;");
        theSea(TWO + WAVE + "wave 6 at 6 left high 7 long 8;wave ^5 at");
        theSea(TWO + "wave 99 at 6 left high 7 long 8;wave 99 at 1 both high 1 long 1;");
        sentence("a PEAK (at, 0 to 40)");
        due("PEAK 0", theSea(TWO + "wave 5 at 0 left high 7 long 8;").wave(0, 1), 0);
        due("PEAK 40", theSea(TWO + "wave 5 at 40 left high 7 long 8;").wave(0, 1), 40);
        theSea(TWO + "wave 5 at ^41 left high 7 long 8;");
        sentence("WAY: left, right, both");
        due("left", theSea(TWO + "wave 5 at 6 left high 7 long 8;").wave(0, 2), 1);
        due("right", theSea(TWO + "wave 5 at 6 right high 7 long 8;").wave(0, 2), 2);
        due("both", theSea(TWO + "wave 5 at 6 both high 7 long 8;").wave(0, 2), 3);
        theSea(TWO + "wave 5 at 6 ^high 7 long 8;");
        theSea(TWO + "wave 5 at 6 ^lefts high 7 long 8;");
        theSea(TWO + "wave 5 at 6 left ^right high 7 long 8;");
        sentence("HIGH (1 to 9)");
        due("HIGH 1", theSea(TWO + "wave 5 at 6 left high 1 long 8;").wave(0, 3), 1);
        due("HIGH 9", theSea(TWO + "wave 5 at 6 left high 9 long 8;").wave(0, 3), 9);
        theSea(TWO + "wave 5 at 6 left high ^0 long 8;");
        theSea(TWO + "wave 5 at 6 left high ^10 long 8;");
        sentence("LONG (1 to 15)");
        due("LONG 1", theSea(TWO + "wave 5 at 6 left high 7 long 1;").wave(0, 4), 1);
        due("LONG 15", theSea(TWO + "wave 5 at 6 left high 7 long 15;").wave(0, 4), 15);
        theSea(TWO + "wave 5 at 6 left high 7 long ^0;");
        theSea(TWO + "wave 5 at 6 left high 7 long ^16;");
        sentence("WAVES (at most 20, numbered)");
        due("no WAVE", theSea(TWO).count(1), 0);
        is("wave(0, 0) without", () -> sea(TWO).wave(0, 0), INDEX);
    }

    /** No more than 15 waves fit into 400 bytes, so the 21st is never told. */
    private static void fullSea() {
        sentence("THE SEA is a text of at most 400 bytes");
        StringBuilder text = new StringBuilder("surfer a at0swims1;surfer b at1swims2;");
        for (int k = 0; k < 15; k++) {
            text.append("wave").append(1 + k / 2).append("at").append(k % 10).append("both high").append(1 + k % 9)
                    .append("long").append(1 + k % 9).append(';');
        }
        text.append(" \n");
        due("the length of the text", text.length(), 400);
        WaveRight x = theSea(text.toString());
        due("WAVES", x.count(1), 15);
        for (int k = 0; k < 15; k++) {
            due("MINUTE of " + k, x.wave(k, 0), 1 + k / 2);
            due("PEAK of " + k, x.wave(k, 1), k % 10);
            due("HIGH of " + k, x.wave(k, 3), 1 + k % 9);
        }
        is("wave(15, 0)", () -> x.wave(15, 0), INDEX);
        theSea(text.toString().trim().replaceFirst(";$", "  ^"));
        theSea(text.substring(0, 399) + "^;");
    }

    private static void names() {
        sentence("NAMES: 1 to 6 letters a to z");
        WaveRight x = theSea("surfer a at 1 swims 1;surfer abcxyz at 2 swims 2;");
        due("a NAME of 1: letter 0", x.name(0, 0), 'a');
        due("a NAME of 1: letter 1", x.name(0, 1), -1);
        String six = "abcxyz";
        for (int k = 0; k < 6; k++) {
            due("a NAME of 6: letter " + k, x.name(1, k), six.charAt(k));
        }
        due("a NAME of 6: letter 6", x.name(1, 6), -1);
        due("letter of the greatest int", x.name(1, Integer.MAX_VALUE), -1);
        due("letter -1", x.name(1, -1), -1);
        due("letter of the least int", x.name(0, Integer.MIN_VALUE), -1);
        theSea("surfer ^abcdefg at 1 swims 1;surfer b at 2 swims 2;");
        theSea("surfer ^at 1 swims 1;surfer b at 2 swims 2;");
        for (char sign : new char[] {'`', '{', 'A', 'Z', '/', ':', '0', '_', (char) 0, (char) 127, (char) 225}) {
            theSea("surfer ^" + sign + " at 1 swims 1;");
            theSea("surfer a^" + sign + " at 1 swims 1;");
        }
        sentence("none of surfer, at, swims, heat, again, wave, left, right, both, high, long");
        for (String kept : "surfer at swims heat again wave left right both high long".split(" ")) {
            theSea("surfer ^" + kept + " at 1 swims 1;surfer b at 2 swims 2;");
            theSea("surfer " + kept.charAt(0) + " at 1 swims 1;surfer z at 2 swims 2;");
            if (kept.length() < 6) {
                theSea("surfer " + kept + "x at 1 swims 1;surfer x" + kept + " at 2 swims 2;");
            }
        }
        theSea("surfer plus at 1 swims 1;surfer less at 2 swims 2;surfer if at 3 swims 3;surfer not at 4 swims 4;");
        sentence("a NAME told already");
        theSea("surfer a at 1 swims 1;surfer ^a at 2 swims 2;");
        theSea("surfer a at 1 swims 1;surfer aa at 2 swims 2;surfer aaa at 3 swims 3;surfer ^aa at 4 swims 4;");
        theSea("surfer ab at 1 swims 1;surfer ba at 2 swims 2;surfer b at 1 swims 1;surfer ^ab at 1 swims 1;");
        WaveRight y = theSea("surfer a at 1 swims 1;surfer b at 2 swims 2;");
        write(y, "surfer b at 1 swims 1;surfer a at 2 swims 2;");
        is("a NAME told in the sea before", y::sea, 0);
    }

    private static void numbers() {
        sentence("N: 1 or 2 digits");
        WaveRight x = theSea("surfer a at 00 swims 01;surfer b at 40 swims 09;heat 05;again 00;"
                + "wave 07 at 08 left high 09 long 03;");
        due("PLACE 00", x.surfer(0, 0), 0);
        due("SWIMS 01", x.surfer(0, 1), 1);
        due("HEAT 05", x.count(4), 5);
        due("MINUTE 07", x.wave(0, 0), 7);
        due("LONG 03", x.wave(0, 4), 3);
        theSea("surfer a at ^000 swims 1;");
        theSea("surfer a at 0 swims ^001;");
        theSea("heat ^005;");
        theSea("again ^000;");
        theSea("wave ^007 at");
        theSea("wave 7 at ^008 left");
        theSea("wave 7 at 8 left high ^009 long 3;");
        theSea("wave 7 at 8 left high 9 long ^003;");
        theSea("wave ^99999999999999999999 at");
        theSea("wave ^4294967297 at");
        theSea("heat^;");
        theSea("heat ^x;");
        theSea("surfer a at ^b swims 1;");
    }

    private static void endsOfLines() {
        sentence("THE SEA: { LINE ; }");
        theSea("surfer ^;");
        theSea("surfer a ^;");
        theSea("surfer a at ^;");
        theSea("surfer a at 1 ^;");
        theSea("surfer a at 1 swims ^;");
        theSea("surfer a at 1 swims 1;^;");
        theSea("heat ^;");
        theSea("again ^;");
        theSea("wave ^;");
        theSea("wave 5 ^;");
        theSea("wave 5 at ^;");
        theSea("wave 5 at 6 ^;");
        theSea("wave 5 at 6 left ^;");
        theSea("wave 5 at 6 left high ^;");
        theSea("wave 5 at 6 left high 7 ^;");
        theSea("wave 5 at 6 left high 7 long ^;");
        theSea("wave 5 at ^high 7 long 8;");
        theSea("wave 5 at ^left high 7 long 8;");
        theSea("wave ^at 6 left high 7 long 8;");
        theSea("wave 5 ^6 left high 7 long 8;");
        theSea("wave 5 at 6 left ^7 long 8;");
        theSea("wave 5 at 6 left high ^long 8;");
        theSea("wave 5 at 6 left high 7 ^8;");
        theSea("surfer a ^1 swims 1;");
        theSea("surfer a at ^swims 1;");
        theSea("surfer a at 1 ^1;");
        theSea("surfer a at 1 swims 1 ^heat 5;");
        theSea("heat 5 ^again 5;");
        theSea("surfer a ^swims 1;");
        theSea("surfer ^1 swims 1;");
        theSea("wave 5 ^left high 7 long 8;");
        theSea("wave 5 at 6 left ^long 8;");
        String[][] surfer = {{"surfer", LINES}, {"a", NAMES}, {"at", "at"}, {"7", "7"}, {"swims", "swims"}, {"7", "7"},
            {";", ";"}, {"surfer", LINES}, {"b", "b plus"}};
        String[][] heat = {{"heat", LINES}, {"7", "7"}, {";", ";"}, {"again", "surfer again wave"}, {"7", "7"}, {";", ";"},
            {"wave", "surfer wave"}};
        String[][] wave = {{"wave", LINES}, {"7", "7"}, {"at", "at"}, {"7", "7"}, {"both", "left right both"},
            {"high", "high"}, {"7", "7"}, {"long", "long"}, {"7", "7"}, {";", ";"}, {"wave", LINES}};
        everyNext(SEA_WORDS, surfer, WaveRightTextEdgesTest::theSea);
        everyNext(SEA_WORDS, heat, WaveRightTextEdgesTest::theSea);
        everyNext(SEA_WORDS, wave, WaveRightTextEdgesTest::theSea);
    }

    /**
     * A text by steps, each of what stands there and of all that may: all other words are THE FAULT there, and none
     * of those is.
     */
    private static void everyNext(String words, String[][] steps, Consumer<String> read) {
        StringBuilder text = new StringBuilder();
        for (String[] step : steps) {
            List<String> may = List.of(step[1].split(" "));
            for (String word : words.split(" ")) {
                if (may.contains(word)) {
                    goesOn(text + word, read);
                } else {
                    read.accept(text + "^" + word);
                }
            }
            text.append(step[0]).append(' ');
        }
    }

    /** What may stand there is no fault by itself: the text is right, or more must come. */
    private static void goesOn(String text, Consumer<String> read) {
        WaveRight x = new WaveRight();
        write(x, text);
        boolean right = answer(text.startsWith("plus") || text.startsWith("less") ? x::judge : x::sea) != ARGUMENT;
        read.accept(right ? text : text + "^");
    }

    private static void seaBlanks() {
        sentence("BLANKS (9, 10, 32) may stand between all in both texts");
        theSea("surfer a at1swims1;surfer b at2swims2;wave5at6both high7long8;");
        theSea("\n\t surfer\na\tat\n1\tswims\n1\t;\n\tsurfer b at 2 swims 2 ;wave 5\n\n\nat 6 both\thigh 7 long 8\t;\n");
        for (int sign = 0; sign < 256; sign++) {
            boolean blank = sign == 9 || sign == 10 || sign == 32;
            boolean letter = sign >= 'a' && sign <= 'z';
            boolean digit = sign >= '0' && sign <= '9';
            String at = blank ? "" : "^";
            if (sign != '^') {
                theSea(at + (char) sign + TWO);
                theSea(TWO + at + (char) sign);
            }
            if (!letter && !digit && sign != '^') {
                theSea("surfer a" + at + (char) sign + " at 1 swims 1;surfer b at 1 swims 1;");
                theSea("surfer a at 1" + at + (char) sign + " swims 1;surfer b at 1 swims 1;");
            }
        }
        sentence("words are as many small letters as stand there");
        theSea("^surfera at 1 swims 1;");
        theSea("surfer aat ^1 swims 1;");
        theSea("surfer a ^atx 1 swims 1;");
        theSea("wave 1 at 1 ^bothhigh 1 long 1;");
        theSea("^sur fer a at 1 swims 1;");
        theSea("surfer a at 1 swims 1^surfer b at 1 swims 1;");
        theSea("heat 1 ^2;");
        theSea("^;" + TWO);
        theSea(TWO + "^;");
        theSea("^Surfer a at 1 swims 1;");
    }

    private static void seaFaults() {
        sentence("THE FAULT: the first byte with which no such text goes on (a word at its first byte: cut off)");
        // the words that are none but themselves told large; where ! stands (it is none of it) the text may end
        String cut = "SURFER ab AT 12 SWIMS 3;SURFER c AT 4 SWIMS 5;!HEAT 22;!AGAIN 11;!"
                + "WAVE 6 AT 7 LEFT HIGH 8 LONG 14;! !WAVE 77 AT 7 RIGHT HIGH 8 LONG 15;!";
        everyCut(cut, WaveRightTextEdgesTest::theSea);
        everyCut("SURFER a AT 1 SWIMS 1;WAVE 9 AT 9 BOTH HIGH 9 LONG 9;SURFER b AT 2 SWIMS 2;!", WaveRightTextEdgesTest::theSea);
        sentence("THE FAULT of the latest sea(), judge(); NONE without one");
        WaveRight x = new WaveRight();
        write(x, "surfer x");
        is("a wrong sea", x::sea, ARGUMENT);
        due("fault of the sea", x.fault(), 8);
        due("fault asked twice", x.fault(), 8);
        write(x, "plus 1");
        due("a tape written changes no fault", x.fault(), 8);
        x.judge();
        due("fault of a right judge", x.fault(), -1);
        write(x, "plus");
        is("a wrong judge", x::judge, ARGUMENT);
        due("fault of the judge", x.fault(), 4);
        write(x, TWO);
        x.sea();
        due("fault of a right sea", x.fault(), -1);
    }

    private static void seaStays() {
        sentence("IllegalArgumentException: the text is wrong; a call that throws changes nothing but the TAPE and fault()");
        String old = TWO + "heat 20;again 3;wave 2 at 2 both high 1 long 9;wave 9 at 3 left high 5 long 6;";
        for (String wrong : new String[] {"", "surfer q at 7 swims 7;", TWO + "heat 60;heat 9;", TWO + WAVE + "wave",
            "surfer q at 7 swims 7;surfer r at 7 swims 7;again 30;wave 3 at 3 both high 9 long 15;wave 2"}) {
            WaveRight x = judged(old, "plus ride");
            WaveRight untouched = judged(old, "plus ride");
            for (WaveRight one : new WaveRight[] {x, untouched}) {
                one.comes();
                one.take(1, 0, 4, 2);
                one.comes();
            }
            write(x, wrong);
            is("the wrong sea " + wrong, x::sea, ARGUMENT);
            List<Long> before = all(untouched);
            List<Long> behind = all(x);
            before.set(0, behind.get(0));
            same("the wrong sea " + wrong, behind, before);
            due("the tape is used up", x.feed(0, 0, 0, 0, 0), 20);
        }
        sentence("Uses the TAPE up: it is THE SEA in place of the one before; the HEAT begins; THE JUDGE stays");
        WaveRight x = judged(old, "plus 7");
        x.comes();
        x.take(1, 0, 2, 0);
        x.comes();
        write(x, "surfer q at 7 swims 8;surfer r at 8 swims 9;surfer s at 9 swims 1;" + WAVE);
        due("sea", x.sea(), 1);
        WaveRight fresh = judged("surfer q at 7 swims 8;surfer r at 8 swims 9;surfer s at 9 swims 1;" + WAVE, "plus 7");
        same("a sea in place of another", all(x), all(fresh));
        due("THE JUDGE stays", x.would(0, 0, 0, 1, 0), 7);
        due("the tape is used up", x.feed(0, 0, 0, 0, 0), 20);
        seasInTurn();
    }

    /** Nothing of a sea told ahead is left, be it the one before, the one before that, or a wrong one. */
    private static void seasInTurn() {
        WaveRight x = new WaveRight();
        String full = "heat 7;again 8;" + TWO + "surfer c at 3 swims 3;" + WAVE + WAVE;
        for (String text : new String[] {full, TWO, TWO, full, full + "wave", TWO, full + "surfer d", full + "x", TWO, full}) {
            boolean right = text.endsWith(";");
            boolean few = text.equals(TWO);
            write(x, text);
            is("sea of " + text, x::sea, !right ? ARGUMENT : few ? 0 : 2);
            if (right) {
                due("SURFERS", x.count(0), few ? 2 : 3);
                due("WAVES", x.count(1), few ? 0 : 2);
                due("HEAT", x.count(4), few ? 30 : 7);
                due("AGAIN", x.count(5), few ? 0 : 8);
                is("wave(0, 0)", () -> x.wave(0, 0), few ? INDEX : 5);
                is("name(2, 0)", () -> x.name(2, 0), few ? INDEX : 'c');
            }
        }
    }

    /** The text cut off at each byte, and with a sign put in there that stands nowhere. */
    private static void everyCut(String cut, Consumer<String> read) {
        String large = cut.replace("!", "");
        String text = large.toLowerCase(Locale.ROOT);
        int ends = 0;
        for (int n = 0; n <= text.length(); n++) {
            boolean right = cut.charAt(Math.min(n + ends, cut.length() - 1)) == '!';
            ends += right ? 1 : 0;
            int begins = n;
            while (n < text.length() && Character.isUpperCase(large.charAt(n)) && begins > 0
                    && Character.isUpperCase(large.charAt(begins - 1))) {
                begins--;
            }
            String marked = text.substring(0, begins) + "^" + text.substring(begins, n);
            read.accept(right ? plain(marked) : marked);
            read.accept(marked + "#" + text.substring(n));
        }
    }

    // ---- the judge ----

    private static void judgeLines() {
        sentence("THE JUDGE: LINE { ; LINE }, at most 10");
        theJudge("^");
        theJudge("plus 1");
        theJudge("less 1");
        theJudge("plus 1;^");
        theJudge("^;plus 1");
        theJudge("plus 1;^;plus 1");
        theJudge("plus 1 ^plus 1");
        theJudge("plus 1;".repeat(9) + "less 2");
        theJudge("plus 1;".repeat(10) + "^less 2");
        theJudge("plus 1;".repeat(10) + "^plus");
        theJudge("plus 1 if 1=1;".repeat(10) + " ^less 2");
        theJudge("^if 1=1");
        sentence("LINE: plus SUM [ if C ] | less SUM [ if C ]");
        theJudge("^minus 1");
        theJudge("^1");
        theJudge("plus^");
        theJudge("plus ^if 1=1");
        theJudge("plus 1 if^");
        theJudge("plus 1 if 1=1 ^if 1=1");
        theJudge("plus 1 ^and 1=1");
        theJudge("plus 1 ^= 1");
        theJudge("plus ^plus 1");
        theJudge("less 1 if 1=1;plus 2 if 2=2");
        sentence("judge: THE JUDGE without a SEA, and its LINES (NONE without)");
        due("LINES without", new WaveRight().count(13), -1);
        due("LINES", theJudge("plus 1;less 1;plus high").count(13), 3);
        sentence("THE JUDGE is a text of at most 400 bytes");
        theJudge("plus 1".concat("+1".repeat(197)));
        theJudge("plus 1".concat("+1".repeat(196)).concat("+^"));
        theJudge("plus 1".concat("+1".repeat(196)).concat("+^;"));
    }

    private static void judgeParts() {
        sentence("NUMBER (1 to 4 digits)");
        theJudge("plus 0");
        theJudge("plus 0000");
        theJudge("plus 9999");
        theJudge("plus ^10000");
        theJudge("plus ^00000");
        theJudge("plus 1 + ^99999999999999999999");
        theJudge("plus ^");
        theJudge("plus ^-1");
        theJudge("plus 12 ^34");
        sentence("PART: high | long | ride | far | turns | minute | rides | best");
        theJudge("plus high+long+ride+far+turns+minute+rides+best");
        for (String none : "wave left right both surfer heat again at swims plus less if or and not hig highs ridess".split(" ")) {
            theJudge("plus ^" + none);
        }
        theJudge("plus ^High");
        theJudge("plus high ^long");
        theJudge("plus high^2");
        sentence("SUM: PRODUCT { + PRODUCT or - PRODUCT }; PRODUCT: PART { * PART or / PART }");
        theJudge("plus 1+2-3*4/5");
        theJudge("plus 1+^");
        theJudge("plus 1-^");
        theJudge("plus 1*^");
        theJudge("plus 1/^");
        theJudge("plus 1+^+2");
        theJudge("plus 1*^/2");
        theJudge("plus ^*2");
        theJudge("plus ^+2");
        theJudge("plus 1^%2");
        sentence("PART: [ SUM ]");
        theJudge("plus [1]");
        theJudge("plus [^]");
        theJudge("plus [1^");
        theJudge("plus [1^)");
        theJudge("plus [1]^]");
        theJudge("plus ^]");
        theJudge("plus ^(1)");
        theJudge("plus [^(1)]");
        theJudge("plus [1^=1]");
        theJudge("plus [1 ^if 1=1]");
    }

    private static void judgeTruths() {
        sentence("C: ALL { or ALL }; ALL: ATOM { and ATOM }");
        theJudge("plus 1 if 1=1 or 2=2 and 3=3 or 4=4");
        theJudge("plus 1 if 1=1 or^");
        theJudge("plus 1 if 1=1 and^");
        theJudge("plus 1 if 1=1 or ^or 1=1");
        theJudge("plus 1 if 1=1 and ^or 1=1");
        theJudge("plus 1 if ^or 1=1");
        theJudge("plus 1 if ^and 1=1");
        theJudge("plus 1 if 1=1 ^1=1");
        theJudge("plus 1 if 1=1 ^not 1=1");
        sentence("ATOM: not ATOM | ( C ) | SUM SIGN SUM");
        theJudge("plus 1 if not 1=1");
        theJudge("plus 1 if not not (not 1=1)");
        theJudge("plus 1 if " + "not ".repeat(96) + "1=1");
        theJudge("plus 1 if not^");
        theJudge("plus 1 if not ^and 1=1");
        theJudge("plus 1 if (1=1)");
        theJudge("plus 1 if (1=1 or 2=2) and (3=3)");
        theJudge("plus 1 if (^)");
        theJudge("plus 1 if (1=1^");
        theJudge("plus 1 if (1=1^]");
        theJudge("plus 1 if (1^)");
        theJudge("plus 1 if (1=1)^)");
        theJudge("plus 1 if (1=1) ^= 1");
        theJudge("plus 1 if 1^");
        theJudge("plus 1 if [1^=1]");
        theJudge("plus 1 if 1=^(1)");
        sentence("SIGN: <, =, >");
        theJudge("plus 1 if 1<2 and 2>1 and 1=1");
        theJudge("plus 1 if 1=^=2");
        theJudge("plus 1 if 1<^=2");
        theJudge("plus 1 if 1=1^=1");
        theJudge("plus 1 if 1^!2");
        theJudge("plus 1 if 1=^");
        theJudge("plus 1 if ^=1");
    }

    private static void judgeDeep() {
        sentence("( and [ within one another at most 6 deep: the 7th of ( and [ at it");
        theJudge("plus [[[[[[1]]]]]]");
        theJudge("plus [[[[[[^[1]]]]]]]");
        theJudge("plus 1 if ((((((1=1))))))");
        theJudge("plus 1 if ((((((^(1=1)))))))");
        theJudge("plus 1 if ((([[[1]]]=1)))");
        theJudge("plus 1 if ((([[[^[1]]]]=1)))");
        theJudge("plus 1 if ((((((1=^[1]))))))");
        theJudge("plus 1 if (((((1=[1])))))");
        theJudge("plus 1 if ([[[[[1]]]]]=1)");
        theJudge("plus 1 if ([[[[[^[1]]]]]]=1)");
        theJudge("plus 1 if ((((((1=1 and ^(1=1)))))))");
        theJudge("plus 1 if ((((((1=1 or not ^(1=1)))))))");
        theJudge("plus 1 if (((((1=1) and (2=2) and [3]=3))))");
        theJudge("plus [[[[[1+[2]*[3]-[4]]]]]]+[[[[[[5]]]]]]");
        theJudge("plus [1]+[2]+[3]+[4]+[5]+[6]+[7]+[8]*[9]");
        theJudge("plus [[[[[[1]]]]]] if ((((((1=1))))))");
        theJudge("plus [[[[[[1^[");
        theJudge("plus [[[[[[^[");
    }

    private static void judgeFaults() {
        sentence("words are as many small letters as stand there, numbers as many digits");
        theJudge("plus1^less");
        theJudge("plus1;less2");
        theJudge("plus1if1=1and2=2or3=3");
        theJudge("plus1if not1=1");
        theJudge("^plushigh");
        theJudge("plus 1 ^ifhigh=1");
        theJudge("plus 1 if 1=1 ^an");
        theJudge("plus 1 if 1=1 ^andnot 1=1");
        sentence("BLANKS (9, 10, 32) may stand between all in both texts");
        theJudge("\n plus\t1\n+ 2 *\t[ 3 ]\n if\t( 1\n=\t1 ) and not 2 < 3 ; less 1\n\t ");
        for (int sign = 0; sign < 256; sign++) {
            boolean kept = sign >= 'a' && sign <= 'z' || sign >= '0' && sign <= '9' || ";+-*/^".indexOf(sign) >= 0;
            if (!kept) {
                String at = sign == 9 || sign == 10 || sign == 32 ? "" : "^";
                theJudge("plus 1" + at + (char) sign);
                theJudge(at + (char) sign + "plus 1");
            }
        }
        sentence("THE FAULT: the first byte with which no such text goes on (a word at its first byte: cut off)");
        everyCut("PLUS 1!2!+[HIGH-LONG]!*3!4!5! !IF NOT (RIDE<2 OR FAR=3)! !AND TURNS/6>MINUTE!;LESS TURNS!-BEST! !IF 1=1!",
                WaveRightTextEdgesTest::theJudge);
    }

    private static void judgeNext() {
        sentence("THE JUDGE: each word, number and sign where it may stand, and nowhere else");
        String line = "+ - * / if ;";
        String left = "+ - * / < = >";
        String right = "+ - * / and or ;";
        String within = "+ - * / and or )";
        String[][] sums = {{"plus", "plus less"}, {"1", PARTS}, {"+", line}, {"high", PARTS}, {"*", line}, {"[", PARTS},
            {"ride", PARTS}, {"/", "+ - * / ]"}, {"[", PARTS}, {"best", PARTS}, {"]", "+ - * / ]"}, {"-", "+ - * / ]"},
            {"far", PARTS}, {"]", "+ - * / ]"}, {"/", line}, {"turns", PARTS}, {";", line}, {"less", "plus less"},
            {"1", PARTS}, {"if", line}};
        String[][] truths = {{"less", "plus less"}, {"1", PARTS}, {"if", line}, {"not", ATOMS}, {"long", ATOMS}, {"<", left},
            {"1", PARTS}, {"and", right}, {"(", ATOMS}, {"minute", ATOMS}, {"-", left}, {"[", PARTS}, {"1", PARTS},
            {"]", "+ - * / ]"}, {"=", left}, {"rides", PARTS}, {"or", within}, {"(", ATOMS}, {"not", ATOMS}, {"[", ATOMS},
            {"1", PARTS}, {"]", "+ - * / ]"}, {">", left}, {"1", PARTS}, {"*", within}, {"1", PARTS}, {")", within},
            {")", "and or )"}, {"and", "and or ;"}, {"1", ATOMS}, {"=", left}, {"1", PARTS}, {";", right},
            {"plus", "plus less"}};
        everyNext(JUDGE_WORDS, sums, WaveRightTextEdgesTest::theJudge);
        everyNext(JUDGE_WORDS, truths, WaveRightTextEdgesTest::theJudge);
    }

    private static void judgeStays() {
        sentence("IllegalArgumentException: the text is wrong; a call that throws changes nothing but the TAPE and fault()");
        String sea = TWO + "wave 2 at 2 both high 4 long 9;wave 9 at 3 left high 5 long 6;";
        for (String old : new String[] {"", "plus ride*2;less 1 if far>3"}) {
            for (String wrong : new String[] {"", "plus 50;less", "plus high;plus 1;less 2 if 1=", "plus 9;".repeat(11)}) {
                WaveRight x = old.isEmpty() ? sea(sea) : judged(sea, old);
                WaveRight untouched = old.isEmpty() ? sea(sea) : judged(sea, old);
                x.comes();
                untouched.comes();
                write(x, wrong);
                is("the wrong judge " + wrong, x::judge, ARGUMENT);
                List<Long> before = all(untouched);
                List<Long> behind = all(x);
                before.set(0, behind.get(0));
                same("the wrong judge " + wrong, behind, before);
                due("the tape is used up", x.feed(0, 0, 0, 0, 0), 20);
            }
        }
        sentence("Uses the TAPE up: it is THE JUDGE");
        WaveRight x = judged(sea, "plus 1;plus 2;plus 3");
        x.comes();
        judgeBy(x, "plus ride");
        due("LINES of the one in place of another", x.count(13), 1);
        due("its SCORE", x.would(0, 0, 2, 9, 0), 9);
        due("the WAVE is there as it was", x.count(6), 0);
        due("the tape is used up", x.feed(0, 0, 0, 0, 0), 20);
        judgeBy(x, "plus 5");
        judgeBy(x, "plus ride+1");
        due("the third one's SCORE", x.would(0, 0, 2, 9, 0), 10);
        sentence("Uses the TAPE up: it is THE JUDGE, as often as it is told");
        WaveRight y = sea(sea);
        for (int k = 0; k < 20; k++) {
            judgeBy(y, "plus " + k + "+1-1".repeat(98) + " ");
            due("SCORE by judge " + k, y.would(0, 0, 2, 9, 0), k);
            due("LINES of judge " + k, y.count(13), 1);
        }
    }

    public static void main(String[] args) {
        newObject();
        feeds();
        ends();
        surfers();
        heats();
        waves();
        fullSea();
        names();
        numbers();
        endsOfLines();
        seaBlanks();
        seaFaults();
        seaStays();
        judgeLines();
        judgeParts();
        judgeTruths();
        judgeDeep();
        judgeFaults();
        judgeNext();
        judgeStays();
        finish();
    }
}
