import java.util.List;

/**
 * The bounds of a HEAT's course, sentence by sentence (promises 7 to 17, 26, 29; a WAVE COMES, TAKEN, RIGHT, GOES BY).
 */
public final class WaveRightHeatEdgesTest extends Due {
    private static final String TWO = "surfer a at 10 swims 2;surfer b at 12 swims 3;";
    private static final String FOUR = "surfer a at 20 swims 1;surfer b at 20 swims 1;surfer c at 20 swims 9;"
            + "surfer d at 20 swims 9;";
    private static final int LEFT = 0;
    private static final int RIGHT = 1;

    private static String wave(int minute, int peak, String ways, int far) {
        return "wave " + minute + " at " + peak + " " + ways + " high 1 long " + far + ";";
    }

    // ---- a wave comes ----

    private static void begins() {
        sentence("A HEAT begins at MINUTE 0 with all SURFERS OUT at their PLACES, each one's GOAL");
        WaveRight x = sea(FOUR + "surfer e at 40 swims 2;heat 9;again 4;" + wave(1, 20, "both", 15));
        int[] counts = {5, 1, 0, 0, 9, 4, -1, 0, 0, 31, 0, 0, 0, -1, 0};
        for (int k = 0; k < counts.length; k++) {
            due("count(" + k + ")", x.count(k), counts[k]);
        }
        int[] last = {40, 2, 1, 40, -1, 0, 0, 0, 4, 0, 0};
        for (int k = 0; k < last.length; k++) {
            due("surfer(4, " + k + ")", x.surfer(4, k), last[k]);
        }
        due("row(0)", x.row(0), -1);
        due("seen(0)", x.seen(0), -1);
        is("took(0, 0)", () -> x.took(0, 0), ELEMENT);
        is("ride(0, 0, 0)", () -> x.ride(0, 0, 0), ELEMENT);

        sentence("The HEAT of THE SEA begins anew: how many SURFERS");
        due("anew of 5", x.anew(), 5);
        String text = "surfer a at 20 swims 9;surfer b at 20 swims 9;again 2;" + wave(5, 20, "both", 15)
                + wave(9, 20, "both", 15) + wave(60, 20, "left", 15);
        WaveRight y = judged(text, "plus ride+1/turns");
        y.goal(0, 15);
        y.comes();
        y.take(1, RIGHT, 3, 1);
        y.comes();
        y.take(0, LEFT, 1, 0);
        due("comes, and the HEAT is OVER", y.comes(), -1);
        due("anew", y.anew(), 2);
        same("anew", all(y), all(judged(text, "plus ride+1/turns")));
        due("comes anew", y.comes(), 0);
        due("START anew, as no WAVE was taken", y.count(3), 4);
        due("anew while a WAVE is there", y.anew(), 2);
        same("anew while a WAVE is there", all(y), all(judged(text, "plus ride+1/turns")));
        same("anew behind two RIDES of one", all(anewBehindTwo()), all(sea(twoRides())));
        WaveRight z = new WaveRight();
        write(z, "surfer");
        is("a wrong sea", z::sea, ARGUMENT);
        is("anew behind a wrong sea", z::anew, STATE);
    }

    private static String twoRides() {
        return TWO + wave(1, 10, "both", 9) + wave(5, 10, "both", 9) + wave(9, 10, "both", 9);
    }

    private static WaveRight anewBehindTwo() {
        WaveRight x = sea(twoRides());
        for (int k = 0; k < 2; k++) {
            x.comes();
            x.take(0, LEFT, 2 + k, 0);
            x.take(1, RIGHT, 3 + k, 0);
        }
        x.comes();
        due("the second best SCORE", x.surfer(0, 10), 2);
        due("SEEN", x.seen(3), 2);
        x.anew();
        return x;
    }

    private static void full() {
        sentence("SURFERS (2 to 5): all of them on a WAVE");
        String five = "surfer a at 20 swims 9;surfer b at 20 swims 9;surfer c at 20 swims 9;surfer d at 20 swims 9;"
                + "surfer e at 20 swims 9;" + wave(1, 20, "both", 15) + wave(3, 20, "both", 15) + wave(5, 20, "both", 15)
                + wave(7, 20, "both", 15);
        WaveRight x = sea(five);
        for (int wave = 0; wave < 2; wave++) {
            due("comes", x.comes(), wave);
            due("OUT", x.count(9), 31);
            for (int k = 4; k >= 0; k--) {
                due("RIDE 1 of " + k, x.take(k, RIGHT, 1, 0), 21);
            }
            due("OUT when all took it", x.count(9), 0);
            due("on the WAVE", x.count(14), 31);
            for (int k = 0; k < 5; k++) {
                due("hinders(" + k + ")", x.hinders(k), (1 << k) - 1);
            }
        }
        row(x, 0, 1, 2, 3, 4);
        due("comes", x.comes(), 2);
        due("who took the first one", x.took(0, 0), 31);
        due("how many HINDERED", x.took(1, 3), 4);
        row(x, 0);
        due("comes", x.comes(), 3);
        due("OUT: the others are SENT IN", x.count(9), 1);
        row(x, 0);
        due("RIDES of all", x.count(11), 10);
        due("the last one leads nobody", x.surfer(4, 8), 4);
        sentence("it is THE SEA in place of the one before: of fewer SURFERS");
        x.anew();
        x.comes();
        for (int k = 0; k < 5; k++) {
            x.take(k, LEFT, 1, 0);
        }
        write(x, "surfer a at 20 swims 9;surfer b at 20 swims 9;" + wave(1, 20, "both", 15) + wave(3, 20, "both", 15));
        x.sea();
        due("OUT", x.count(9), 3);
        due("comes", x.comes(), 0);
        x.take(1, LEFT, 1, 0);
        due("on the WAVE", x.count(14), 2);
        due("hinders(1)", x.hinders(1), 0);
        due("comes", x.comes(), 1);
        due("who took it", x.took(0, 0), 2);
        row(x, 0, 1);
        is("ranked(2)", () -> x.ranked(2), ELEMENT);
    }

    private static void noneLeft() {
        sentence("If no WAVE is left, the HEAT is OVER");
        WaveRight x = sea(TWO);
        due("comes without a WAVE", x.comes(), -1);
        due("OVER", x.count(7), 1);
        due("MINUTE", x.count(2), 0);
        WaveRight y = sea(TWO + wave(1, 10, "both", 9));
        due("comes", y.comes(), 0);
        due("not OVER at the last WAVE", y.count(7), 0);
        y.take(0, LEFT, 1, 0);
        due("comes behind the last one", y.comes(), -1);
        due("OVER behind the last one", y.count(7), 1);
        sentence("first the one that is there GOES BY");
        due("who took it", y.took(0, 0), 1);
        due("RIDES that are JUDGED", y.count(11), 1);
        due("no WAVE is there", y.count(6), -1);
        due("nobody is on it", y.count(14), 0);
        due("MINUTE stays", y.count(2), 1);
        sentence("NONE: the HEAT is OVER (it stays so)");
        List<Long> before = all(y);
        due("comes once more", y.comes(), -1);
        same("comes once more", all(y), before);
    }

    /** Behind the first comes() of a heat whose only wave comes at minute. */
    private static void starts(int again, int minute, int start) {
        WaveRight x = sea(TWO + "heat 60;again " + again + ";" + wave(minute, 10, "both", 9));
        String told = "again " + again + ", a WAVE at " + minute + ": ";
        due(told + "comes", x.comes(), 0);
        due(told + "START", x.count(3), start);
        due(told + "how many times", x.count(10), again == 0 ? 0 : start / again);
        due(told + "MINUTE", x.count(2), minute);
    }

    private static void startsAgain() {
        sentence("as long as AGAIN is above 0, and the next one's MINUTE is above START and AGAIN together: START is AGAIN more");
        starts(5, 4, 0);
        starts(5, 5, 0);
        starts(5, 6, 5);
        starts(5, 10, 5);
        starts(5, 11, 10);
        starts(0, 60, 0);
        starts(1, 1, 0);
        starts(1, 2, 1);
        starts(1, 99, 98);
        starts(7, 98, 91);
        starts(7, 99, 98);
        starts(30, 30, 0);
        starts(30, 31, 30);
        starts(30, 60, 30);
        starts(30, 61, 60);
        sentence("no WAVE was taken at all");
        String waves = wave(2, 10, "both", 9) + wave(9, 10, "both", 9) + wave(30, 10, "both", 9);
        WaveRight x = sea(TWO + "again 3;" + waves);
        x.comes();
        x.take(0, LEFT, 1, 0);
        due("comes behind one that was taken", x.comes(), 1);
        due("START behind one that was taken", x.count(3), 0);
        due("comes two behind it", x.comes(), 2);
        due("START two behind it", x.count(3), 0);
        WaveRight y = sea(TWO + "again 3;" + waves);
        y.comes();
        due("comes behind one that was not taken", y.comes(), 1);
        due("START behind one that was not taken", y.count(3), 6);
        due("how many times", y.count(10), 2);
        y.take(1, RIGHT, 1, 0);
        due("comes behind the second one, that was taken", y.comes(), 2);
        due("START stays", y.count(3), 6);
        due("how many times stays", y.count(10), 2);
    }

    /** Whether the only wave of a heat comes. */
    private static void ends(String heat, int minute, boolean comes) {
        WaveRight x = sea(TWO + heat + wave(minute, 10, "both", 9));
        due(heat + " a WAVE at " + minute, x.comes(), comes ? 0 : -1);
        due(heat + " a WAVE at " + minute + ": OVER", x.count(7), comes ? 0 : 1);
        due(heat + " a WAVE at " + minute + ": MINUTE", x.count(2), comes ? minute : 0);
    }

    private static void endsBehind() {
        sentence("If that MINUTE is above START and HEAT together then, the HEAT is OVER");
        ends("", 30, true);
        ends("", 31, false);
        ends("heat 1;", 1, true);
        ends("heat 1;", 2, false);
        ends("heat 60;", 60, true);
        ends("heat 60;", 61, false);
        ends("heat 4;again 5;", 9, true);
        ends("heat 3;again 5;", 9, false);
        ends("heat 3;again 5;", 8, true);
        ends("heat 1;again 1;", 99, true);
        sentence("the HEAT is OVER (START stays so)");
        WaveRight x = sea(TWO + "heat 3;again 5;" + wave(9, 10, "both", 9) + wave(10, 10, "both", 9)
                + wave(11, 10, "both", 9));
        due("comes", x.comes(), -1);
        due("START", x.count(3), 5);
        due("how many times", x.count(10), 1);
        due("no WAVE is there", x.count(6), -1);
        due("comes once more, though the third one would be in time", x.comes(), -1);
        due("START once more", x.count(3), 5);
        is("took of one that did not come", () -> x.took(0, 0), ELEMENT);
        WaveRight y = sea(TWO + "heat 5;" + wave(5, 10, "both", 9) + wave(6, 10, "both", 9));
        y.comes();
        y.take(1, RIGHT, 1, 0);
        due("comes behind the end", y.comes(), -1);
        due("the one that was there went by", y.took(0, 0), 2);
        is("the one behind the end did not", () -> y.took(1, 0), ELEMENT);
        due("MINUTE", y.count(2), 5);
        due("OUT", y.count(9), 1);
    }

    private static void swims(int place, int swims, int goal, int minute, int due) {
        WaveRight x = sea("surfer a at " + place + " swims " + swims + ";surfer b at 0 swims 1;heat 60;"
                + wave(minute, 20, "both", 9));
        String told = "from " + place + " to " + goal + " by " + swims + ", " + minute + " MINUTES: ";
        due(told + "what GOAL was", x.goal(0, goal), place);
        due(told + "PLACE ahead", x.surfer(0, 0), place);
        x.comes();
        due(told + "PLACE", x.surfer(0, 0), due);
        due(told + "GOAL", x.surfer(0, 3), goal);
        due(told + "the other one's PLACE", x.surfer(1, 0), 0);
    }

    private static void swum() {
        sentence("those who are OUT have swum toward their GOALS, SWIMS PLACES at most for each MINUTE");
        swims(10, 3, 15, 2, 15);
        swims(10, 3, 16, 2, 16);
        swims(10, 3, 17, 2, 16);
        swims(10, 3, 5, 2, 5);
        swims(10, 3, 4, 2, 4);
        swims(10, 3, 3, 2, 4);
        swims(10, 3, 10, 9, 10);
        swims(0, 9, 40, 4, 36);
        swims(0, 9, 40, 5, 40);
        swims(0, 1, 40, 1, 1);
        swims(40, 1, 0, 39, 1);
        swims(40, 1, 0, 40, 0);
        swims(40, 9, 0, 60, 0);
        sentence("since the MINUTE that it was");
        WaveRight x = sea("surfer a at 0 swims 2;surfer b at 40 swims 1;" + wave(2, 20, "both", 9) + wave(5, 20, "both", 9)
                + wave(5, 20, "both", 9) + wave(6, 20, "both", 9));
        x.goal(0, 40);
        int[] places = {4, 10, 10, 12};
        for (int k = 0; k < 4; k++) {
            due("comes", x.comes(), k);
            due("PLACE at WAVE " + k, x.surfer(0, 0), places[k]);
            due("the other one's PLACE", x.surfer(1, 0), 40);
        }
        sentence("GOAL of a SURFER is told (0 to 40): what it was");
        due("goal(0, 0)", x.goal(0, 0), 40);
        due("goal(0, 40)", x.goal(0, 40), 0);
        is("goal(0, 41)", () -> x.goal(0, 41), ARGUMENT);
        is("goal(0, -1)", () -> x.goal(0, -1), ARGUMENT);
        due("GOAL", x.surfer(0, 3), 40);
        due("comes behind the last one", x.comes(), -1);
        due("nobody swims when the HEAT is OVER", x.surfer(0, 0), 12);
        due("goal of one who is OUT when the HEAT is OVER", x.goal(0, 7), 40);
    }

    /** One who takes off at 20 by minute is OUT again at back, and not a MINUTE ahead of it. */
    private static void back(int minute, int swims, int ride, int back) {
        WaveRight x = sea("surfer a at 20 swims " + swims + ";surfer b at 0 swims 1;heat 60;" + wave(minute, 20, "left", 15)
                + wave(back - 1, 20, "left", 15) + wave(back, 20, "left", 15));
        String told = "a RIDE of " + ride + " by " + swims + " at " + minute + ": ";
        x.comes();
        x.take(0, LEFT, ride, 0);
        due(told + "BACK on the WAVE", x.surfer(0, 4), -1);
        x.comes();
        due(told + "BACK", x.surfer(0, 4), back);
        due(told + "OUT a MINUTE ahead of it", x.surfer(0, 2), 0);
        x.comes();
        due(told + "OUT at it", x.surfer(0, 2), 1);
        due(told + "BACK of one who is OUT", x.surfer(0, 4), -1);
        due(told + "PLACE", x.surfer(0, 0), 20);
    }

    private static void backs() {
        sentence("BACK of each of them: the MINUTE, 1 more, and RIDE by SWIMS, rounded up; "
                + "those whose BACK is not above it are OUT again");
        back(2, 3, 1, 4);
        back(2, 3, 3, 4);
        back(2, 3, 4, 5);
        back(2, 3, 6, 5);
        back(2, 3, 7, 6);
        back(1, 1, 15, 17);
        back(1, 9, 9, 3);
        back(1, 9, 10, 4);
        back(44, 1, 14, 59);
        sentence("at the PLACE from which they took off (that is their GOAL, too)");
        WaveRight x = sea("surfer a at 10 swims 2;surfer b at 0 swims 1;" + wave(2, 14, "both", 9) + wave(3, 14, "both", 9)
                + wave(5, 14, "both", 9) + wave(9, 14, "both", 9));
        x.goal(0, 40);
        x.comes();
        due("PLACE", x.surfer(0, 0), 14);
        x.take(0, RIGHT, 2, 0);
        due("PLACE on the WAVE", x.surfer(0, 0), 14);
        x.comes();
        due("PLACE of one who swims back", x.surfer(0, 0), 14);
        x.comes();
        due("OUT", x.surfer(0, 2), 1);
        due("PLACE of one who is back", x.surfer(0, 0), 14);
        due("GOAL of one who is back", x.surfer(0, 3), 14);
        due("goal", x.goal(0, 12), 14);
        x.comes();
        due("PLACE behind a new GOAL", x.surfer(0, 0), 12);
    }

    private static void row(WaveRight x, int... due) {
        for (int k = 0; k < due.length; k++) {
            due("row(" + k + ")", x.row(k), due[k]);
        }
        due("row(-1)", x.row(-1), -1);
        due("row behind its end", x.row(due.length), -1);
    }

    private static void rows() {
        sentence("If there was no PRIORITY, and somebody took it, there is: all who did not take it, by numbers");
        String waves = wave(1, 20, "both", 15) + wave(2, 20, "both", 15) + wave(9, 20, "both", 15) + wave(10, 20, "both", 15)
                + wave(11, 20, "both", 15);
        WaveRight x = sea(FOUR + waves);
        x.comes();
        x.comes();
        due("PRIORITY behind a WAVE that nobody took", x.count(8), 0);
        row(x);
        x.take(1, LEFT, 1, 0);
        due("no PRIORITY as long as the first one taken is there", x.count(8), 0);
        row(x);
        x.comes();
        due("PRIORITY", x.count(8), 1);
        row(x, 0, 2, 3, 1);
        x.comes();
        row(x, 0, 2, 3, 1);

        sentence("come to the end of THE ROW: by BACK, of like ones by numbers");
        WaveRight y = sea(FOUR + waves);
        y.comes();
        y.take(1, RIGHT, 3, 0);
        y.take(3, RIGHT, 10, 0);
        y.take(2, LEFT, 9, 0);
        y.take(0, LEFT, 3, 0);
        y.comes();
        due("PRIORITY when all took it", y.count(8), 1);
        row(y);
        due("OUT", y.count(9), 0);
        int[] backs = {5, 5, 3, 4};
        for (int k = 0; k < 4; k++) {
            due("BACK of " + k, y.surfer(k, 4), backs[k]);
        }
        y.comes();
        row(y, 2, 3, 0, 1);
        due("OUT", y.count(9), 15);
        sentence("stays in THE ROW as long as the WAVE is there; else those who took it leave THE ROW");
        y.take(2, RIGHT, 1, 0);
        row(y, 2, 3, 0, 1);
        y.comes();
        row(y, 3, 0, 1);
        due("BACK", y.surfer(2, 4), 11);
        y.comes();
        row(y, 3, 0, 1, 2);
        due("row of the greatest int", y.row(Integer.MAX_VALUE), -1);
        due("row of the least int", y.row(Integer.MIN_VALUE), -1);
    }

    // ---- taken ----

    private static void takes(int way, int place, String ways, int ride, long due) {
        WaveRight x = sea("surfer a at " + place + " swims 1;surfer b at 0 swims 1;" + wave(1, 20, ways, 8));
        x.comes();
        is("from " + place + ", " + ways + ", WAY " + way + ", RIDE " + ride, () -> x.take(0, way, ride, 0), due);
        due("OUT", x.surfer(0, 2), due == STATE || due == ARGUMENT ? 1 : 0);
        due("who is on it", x.count(14), due == STATE || due == ARGUMENT ? 0 : 1);
    }

    private static void taken() {
        sentence("it can be, if the PLACE is on that side of the PEAK or at it, and RIDE PLACES on one is no farther than LONG");
        takes(LEFT, 20, "both", 1, 19);
        takes(LEFT, 20, "both", 8, 12);
        takes(LEFT, 20, "both", 9, STATE);
        takes(LEFT, 19, "both", 7, 12);
        takes(LEFT, 19, "both", 8, STATE);
        takes(LEFT, 13, "both", 1, 12);
        takes(LEFT, 12, "both", 1, STATE);
        takes(LEFT, 21, "both", 1, STATE);
        takes(RIGHT, 20, "both", 1, 21);
        takes(RIGHT, 20, "both", 8, 28);
        takes(RIGHT, 20, "both", 9, STATE);
        takes(RIGHT, 21, "both", 7, 28);
        takes(RIGHT, 21, "both", 8, STATE);
        takes(RIGHT, 27, "both", 1, 28);
        takes(RIGHT, 28, "both", 1, STATE);
        takes(RIGHT, 19, "both", 1, STATE);
        sentence("takes the WAVE that is there one of its WAYS");
        takes(LEFT, 20, "left", 1, 19);
        takes(RIGHT, 20, "left", 1, STATE);
        takes(RIGHT, 20, "right", 1, 21);
        takes(LEFT, 20, "right", 1, STATE);
        takes(-1, 20, "both", 1, ARGUMENT);
        takes(2, 20, "both", 1, ARGUMENT);
        sentence("RIDE, 1 to 20; TURNS (0 to 9)");
        takes(LEFT, 20, "both", 0, ARGUMENT);
        takes(LEFT, 20, "both", -1, ARGUMENT);
        takes(LEFT, 20, "both", 20, STATE);
        takes(LEFT, 20, "both", 21, ARGUMENT);
        WaveRight x = sea(FOUR + wave(1, 20, "both", 15) + wave(3, 20, "both", 15));
        x.comes();
        is("turns -1", () -> x.take(0, LEFT, 1, -1), ARGUMENT);
        is("turns 10", () -> x.take(0, LEFT, 1, 10), ARGUMENT);
        due("turns 0", x.take(0, LEFT, 15, 0), 5);
        due("turns 9", x.take(1, RIGHT, 15, 9), 35);
        is("taken twice", () -> x.take(0, LEFT, 1, 0), STATE);
        x.comes();
        due("TURNS 0", x.ride(0, 0, 3), 0);
        due("TURNS 9", x.ride(1, 0, 3), 9);
        sentence("PLACES below 0 and above 40 are such, too");
        WaveRight y = sea("surfer a at 0 swims 1;surfer b at 3 swims 1;surfer c at 40 swims 1;" + wave(1, 0, "left", 15)
                + wave(2, 5, "left", 15) + wave(3, 40, "right", 15));
        y.comes();
        due("15 PLACES below 0", y.take(0, LEFT, 15, 0), -15);
        y.comes();
        due("10 PLACES below 0", y.take(1, LEFT, 13, 0), -10);
        y.comes();
        due("15 PLACES above 40", y.take(2, RIGHT, 15, 0), 55);
        sentence("IllegalStateException: no WAVE is there, that one is not OUT");
        is("of one who swims back", () -> y.take(0, RIGHT, 1, 0), STATE);
        y.comes();
        is("when no WAVE is there", () -> y.take(1, LEFT, 1, 0), STATE);
    }

    // ---- right, hinders ----

    private static void rights() {
        sentence("RIGHT of two: without PRIORITY of the one whose PLACE is less far from the PEAK, of like ones of the lesser number");
        WaveRight x = sea("surfer a at 22 swims 1;surfer b at 19 swims 1;surfer c at 21 swims 1;surfer d at 22 swims 1;"
                + wave(1, 20, "both", 15) + wave(2, 20, "both", 15) + wave(4, 20, "both", 15));
        x.comes();
        due("right(0, 1)", x.right(0, 1), 1);
        due("right(1, 0)", x.right(1, 0), 1);
        due("right(1, 2): as far on the two sides", x.right(1, 2), 1);
        due("right(2, 1)", x.right(2, 1), 1);
        due("right(0, 3): at one PLACE", x.right(0, 3), 0);
        due("right(3, 0)", x.right(3, 0), 0);
        due("right(3, 2)", x.right(3, 2), 2);
        is("right(2, 2)", () -> x.right(2, 2), ARGUMENT);
        x.take(1, LEFT, 1, 0);
        x.take(3, RIGHT, 1, 0);
        due("right of two who took it", x.right(3, 1), 1);
        due("right of one who took it and one who did not", x.right(3, 2), 2);
        sentence("with PRIORITY: who is in THE ROW ahead of who is not; of two who are not NONE");
        x.comes();
        row(x, 0, 2);
        due("right(0, 2)", x.right(0, 2), 0);
        due("right(2, 0)", x.right(2, 0), 0);
        due("right(1, 2)", x.right(1, 2), 2);
        due("right(2, 3)", x.right(2, 3), 2);
        due("right(1, 3)", x.right(1, 3), -1);
        due("right(3, 1)", x.right(3, 1), -1);
        x.take(0, RIGHT, 1, 0);
        due("right of one who took the WAVE that is there", x.right(2, 0), 0);
        x.comes();
        row(x, 2, 1, 3, 0);
        due("right of the end of THE ROW", x.right(3, 1), 1);
        due("right of its beginning, though farther", x.right(1, 2), 2);
        x.comes();
        is("right without a WAVE", () -> x.right(0, 1), STATE);
        is("right of one with that one, without a WAVE", () -> x.right(1, 1), ARGUMENT);
    }

    /** Both take a WAVE of PEAK 20 one WAY: who hinders (-1 nobody). */
    private static void paths(int way, int place, int ride, int other, int otherRide, int hinderer) {
        WaveRight x = sea("surfer a at " + place + " swims 1;surfer b at " + other + " swims 1;" + wave(1, 20, "both", 15)
                + wave(2, 20, "both", 15));
        String told = "WAY " + way + ", " + ride + " from " + place + " and " + otherRide + " from " + other + ": ";
        x.comes();
        x.take(0, way, ride, 0);
        x.take(1, way, otherRide, 0);
        due(told + "hinders(0)", x.hinders(0), hinderer == 0 ? 2 : 0);
        due(told + "hinders(1)", x.hinders(1), hinderer == 1 ? 1 : 0);
        x.comes();
        due(told + "HINDERINGS of 0", x.surfer(0, 5), hinderer == 0 ? 1 : 0);
        due(told + "HINDERINGS of 1", x.surfer(1, 5), hinderer == 1 ? 1 : 0);
    }

    private static void hinders() {
        sentence("whose PATHS have a PLACE in common the one without RIGHT HINDERS the other one");
        paths(RIGHT, 20, 3, 24, 1, -1);
        paths(RIGHT, 20, 4, 24, 1, 1);
        paths(RIGHT, 20, 5, 24, 1, 1);
        paths(RIGHT, 24, 1, 20, 3, -1);
        paths(RIGHT, 24, 1, 20, 4, 0);
        paths(RIGHT, 20, 10, 22, 2, 1);
        paths(RIGHT, 20, 2, 20, 2, 1);
        paths(LEFT, 20, 3, 16, 1, -1);
        paths(LEFT, 20, 4, 16, 1, 1);
        paths(LEFT, 20, 5, 16, 1, 1);
        paths(LEFT, 16, 1, 20, 3, -1);
        paths(LEFT, 16, 1, 20, 4, 0);
        paths(LEFT, 18, 2, 20, 10, 0);
        sentence("Of two who take one WAVE one WAY");
        WaveRight x = sea(FOUR + wave(1, 20, "both", 15) + wave(3, 20, "both", 15));
        due("hinders when no WAVE is there", x.hinders(0), 0);
        x.comes();
        x.take(0, LEFT, 2, 0);
        x.take(1, RIGHT, 2, 0);
        due("WAYS apart from one PLACE: hinders(0)", x.hinders(0), 0);
        due("WAYS apart from one PLACE: hinders(1)", x.hinders(1), 0);
        due("hinders of one who has not taken it", x.hinders(2), 0);
        x.take(3, RIGHT, 1, 0);
        due("hinders(3)", x.hinders(3), 2);
        x.comes();
        due("hinders behind it", x.hinders(3), 0);
        sentence("Whom a SURFER HINDERS as it is now, as bits");
        WaveRight y = sea("surfer a at 20 swims 1;surfer b at 22 swims 1;surfer c at 23 swims 1;" + wave(1, 20, "right", 15)
                + wave(2, 20, "right", 15));
        y.comes();
        y.take(2, RIGHT, 1, 0);
        due("hinders(2) alone", y.hinders(2), 0);
        y.take(0, RIGHT, 4, 0);
        due("hinders(2) of the first", y.hinders(2), 1);
        y.take(1, RIGHT, 4, 0);
        due("hinders(2) of both", y.hinders(2), 3);
        due("hinders(1)", y.hinders(1), 1);
        due("hinders(0)", y.hinders(0), 0);
        sentence("who HINDERS one or more has one HINDERING more");
        y.comes();
        due("HINDERINGS of one who hinders two", y.surfer(2, 5), 1);
        due("HINDERINGS of one who hinders one", y.surfer(1, 5), 1);
        due("how many HINDERED", y.took(0, 3), 2);
        hindersByRow();
    }

    private static void hindersByRow() {
        sentence("with PRIORITY of the one who is ahead in THE ROW");
        WaveRight x = sea("surfer a at 20 swims 9;surfer b at 23 swims 9;" + wave(1, 20, "right", 15)
                + wave(3, 20, "right", 15) + wave(5, 20, "right", 15));
        x.comes();
        x.take(0, RIGHT, 1, 0);
        x.comes();
        row(x, 1, 0);
        x.take(0, RIGHT, 3, 0);
        x.take(1, RIGHT, 1, 0);
        due("hinders of the one at the PEAK who is behind", x.hinders(0), 2);
        due("hinders of the farther one who is ahead", x.hinders(1), 0);
        x.comes();
        due("HINDERINGS", x.surfer(0, 5), 1);
        due("HINDERINGS of the farther one", x.surfer(1, 5), 0);
        due("UNJUDGED ones: who HINDERED is none", x.count(12), 0);
    }

    // ---- goes by ----

    private static void sentIn() {
        sentence("who has 2 HINDERINGS is SENT IN: never OUT again");
        String text = "surfer a at 20 swims 9;surfer b at 20 swims 9;" + wave(1, 20, "right", 15) + wave(3, 20, "right", 15)
                + wave(9, 20, "right", 15) + wave(30, 20, "right", 15);
        WaveRight x = judged(text, "plus 10");
        for (int k = 0; k < 2; k++) {
            due("comes", x.comes(), k);
            due("OUT with " + k + " HINDERINGS", x.count(9), 3);
            x.take(0, RIGHT, 1, 0);
            x.take(1, RIGHT, 2, 0);
        }
        row(x, 0, 1);
        due("BACK on the WAVE", x.surfer(1, 4), -1);
        due("comes", x.comes(), 2);
        int[] sent = {20, 9, 0, 20, -1, 2, 2, 0, 1, 0, 0};
        for (int k = 0; k < sent.length; k++) {
            due("surfer(1, " + k + ")", x.surfer(1, k), sent[k]);
        }
        row(x, 0);
        due("right of one who is SENT IN", x.right(1, 0), 0);
        due("comes", x.comes(), 3);
        due("OUT at last", x.count(9), 1);
        row(x, 0);
        due("anew", x.anew(), 2);
        due("OUT anew", x.count(9), 3);
        due("HINDERINGS anew", x.surfer(1, 5), 0);

        sentence("a SCORE of 0 (THE JUDGE is not asked)");
        WaveRight y = judged(text, "plus 1/0");
        y.comes();
        y.take(0, RIGHT, 1, 7);
        y.take(1, RIGHT, 2, 8);
        y.comes();
        int[] unjudged = {0, 0, 1, 7, RIGHT, 0, 2};
        int[] hindered = {0, 0, 2, 8, RIGHT, 1, 0};
        for (int k = 0; k < 7; k++) {
            due("ride(0, 0, " + k + ")", y.ride(0, 0, k), unjudged[k]);
            due("ride(1, 0, " + k + ")", y.ride(1, 0, k), hindered[k]);
        }
        due("RIDES that are JUDGED", y.count(11), 2);
        due("UNJUDGED ones", y.count(12), 1);
        due("SEEN", y.seen(0), -1);
    }

    private static void rides() {
        sentence("Of the k-th RIDE of a SURFER; NoSuchElementException: there is none such, another what");
        WaveRight x = judged("surfer a at 20 swims 9;surfer b at 40 swims 9;" + wave(1, 20, "both", 15)
                + wave(3, 20, "both", 15) + wave(5, 20, "both", 15), "plus ride*10+turns");
        x.comes();
        x.take(0, LEFT, 2, 3);
        is("ride of one on the WAVE", () -> x.ride(0, 0, 0), ELEMENT);
        x.comes();
        x.take(0, RIGHT, 4, 5);
        x.comes();
        int[][] due = {{23, 0, 2, 3, LEFT, 0, 0}, {45, 1, 4, 5, RIGHT, 0, 0}};
        for (int k = 0; k < 2; k++) {
            for (int what = 0; what < 7; what++) {
                due("ride(0, " + k + ", " + what + ")", x.ride(0, k, what), due[k][what]);
            }
        }
        for (int far : new int[] {-1, 7, Integer.MIN_VALUE, Integer.MAX_VALUE}) {
            is("ride(0, 1, " + far + ")", () -> x.ride(0, 1, far), ELEMENT);
        }
        for (int far : new int[] {-1, 2, Integer.MIN_VALUE, Integer.MAX_VALUE}) {
            is("ride(0, " + far + ", 0)", () -> x.ride(0, far, 0), ELEMENT);
        }
        is("ride(1, 0, 0) of one without", () -> x.ride(1, 0, 0), ELEMENT);
        is("ride(2, 0, 0)", () -> x.ride(2, 0, 0), INDEX);
        is("ride(-1, 0, 0)", () -> x.ride(-1, 0, 0), INDEX);
    }

    private static void took(WaveRight x, int wave, int... due) {
        for (int k = 0; k < 4; k++) {
            due("took(" + wave + ", " + k + ")", x.took(wave, k), due[k]);
        }
    }

    private static void takers() {
        sentence("Of a WAVE that went by; NoSuchElementException: it did not go by in this HEAT, another what");
        String waves = wave(1, 20, "both", 15) + wave(5, 20, "both", 15) + wave(9, 20, "both", 15) + wave(13, 20, "both", 15);
        WaveRight x = judged("surfer a at 20 swims 9;surfer b at 21 swims 9;surfer c at 20 swims 9;" + waves, "plus turns*10");
        is("took(0, 0) ahead of any", () -> x.took(0, 0), ELEMENT);
        x.comes();
        is("took(0, 0) while it is there", () -> x.took(0, 0), ELEMENT);
        x.comes();
        took(x, 0, 0, -1, -1, 0);
        is("took(1, 0) while it is there", () -> x.took(1, 0), ELEMENT);
        is("took(2, 0) ahead of it", () -> x.took(2, 0), ELEMENT);
        x.take(1, RIGHT, 1, 4);
        x.take(2, LEFT, 1, 4);
        x.take(0, RIGHT, 1, 3);
        x.comes();
        sentence("1 the greatest SCORE of a RIDE by it, 2 whose that is (of several the least), 3 how many HINDERED by it");
        took(x, 1, 7, 40, 2, 1);
        x.take(0, LEFT, 1, 2);
        x.take(2, RIGHT, 1, 2);
        x.comes();
        took(x, 2, 5, 20, 0, 0);
        took(x, 1, 7, 40, 2, 1);
        x.take(1, RIGHT, 1, 0);
        due("comes behind the last one", x.comes(), -1);
        took(x, 3, 2, 0, 1, 0);
        is("took(3, 4)", () -> x.took(3, 4), ELEMENT);
        is("took(3, -1)", () -> x.took(3, -1), ELEMENT);
        is("took(4, 0)", () -> x.took(4, 0), INDEX);
        is("took(-1, 0)", () -> x.took(-1, 0), INDEX);
        x.anew();
        is("took(0, 0) of the HEAT before", () -> x.took(0, 0), ELEMENT);
        x.comes();
        x.take(0, LEFT, 1, 9);
        x.comes();
        took(x, 0, 1, 90, 0, 0);
        x.take(0, LEFT, 1, 5);
        x.take(2, RIGHT, 1, 2);
        x.comes();
        took(x, 1, 5, 50, 0, 0);
        x.anew();
        x.comes();
        x.comes();
        x.comes();
        took(x, 0, 0, -1, -1, 0);
        took(x, 1, 0, -1, -1, 0);
        WaveRight y = judged("surfer a at 21 swims 9;surfer b at 20 swims 9;" + waves, "plus turns*10");
        y.comes();
        y.take(0, RIGHT, 1, 9);
        y.take(1, RIGHT, 1, 0);
        y.comes();
        due("who HINDERED", y.ride(0, 0, 5), 1);
        took(y, 0, 3, 0, 0, 1);
    }

    private static void counts() {
        sentence("count: NONE for another what");
        WaveRight x = judged("surfer a at 20 swims 9;surfer b at 21 swims 9;surfer c at 20 swims 9;heat 17;again 3;"
                + wave(5, 20, "both", 15) + wave(8, 20, "both", 15), "plus 1/turns;plus 1");
        due("comes", x.comes(), 0);
        x.take(0, LEFT, 1, 0);
        x.take(1, RIGHT, 1, 1);
        x.take(2, RIGHT, 3, 1);
        int[] there = {3, 2, 5, 3, 17, 3, 0, 0, 0, 0, 1, 0, 0, 2, 7};
        int[] behind = {3, 2, 8, 3, 17, 3, 1, 0, 1, 7, 1, 3, 1, 2, 0};
        for (int k = 0; k < 15; k++) {
            due("count(" + k + ") while the first one is there", x.count(k), there[k]);
        }
        due("comes", x.comes(), 1);
        for (int k = 0; k < 15; k++) {
            due("count(" + k + ") behind the first one", x.count(k), behind[k]);
        }
        for (int what : new int[] {-1, 15, Integer.MIN_VALUE, Integer.MAX_VALUE}) {
            due("count(" + what + ")", x.count(what), -1);
        }
        sentence("NoSuchElementException: another what");
        for (int what : new int[] {-1, Integer.MIN_VALUE, Integer.MAX_VALUE}) {
            is("wave(0, " + what + ")", () -> x.wave(0, what), ELEMENT);
            is("surfer(0, " + what + ")", () -> x.surfer(0, what), ELEMENT);
            is("took(0, " + what + ")", () -> x.took(0, what), ELEMENT);
        }
        is("wave(0, 5)", () -> x.wave(0, 5), ELEMENT);
        is("surfer(0, 11)", () -> x.surfer(0, 11), ELEMENT);
        sentence("Letter k of a SURFER's NAME; NONE behind it");
        due("name(2, 0)", x.name(2, 0), 'c');
        due("name(2, 1)", x.name(2, 1), -1);
    }

    public static void main(String[] args) {
        begins();
        full();
        noneLeft();
        startsAgain();
        endsBehind();
        swum();
        backs();
        rows();
        taken();
        rights();
        hinders();
        sentIn();
        rides();
        takers();
        counts();
        finish();
    }
}
