import java.util.Arrays;

/**
 * The bounds of what is best to do, sentence by sentence (promises 21 to 25, 27, 28; BEST RIDE, PLAN, LOOKING BACK).
 */
public final class WaveRightAdviceEdgesTest extends Due {
    private static final int LEFT = 0;
    private static final int RIGHT = 1;
    private static final int NONE = -1;

    private static String wave(int minute, int peak, String ways, int high, int far) {
        return "wave " + minute + " at " + peak + " " + ways + " high " + high + " long " + far + ";";
    }

    private static void best(String told, WaveRight x, int surfer, int ride, int way, int score) {
        due(told + ": RIDE", x.best(surfer, 0), ride);
        due(told + ": WAY", x.best(surfer, 1), way);
        due(told + ": SCORE", x.best(surfer, 2), score);
    }

    /** BEST RIDE of one alone at place by a WAVE of PEAK 20. */
    private static void alone(String judge, int place, String ways, int high, int far, int ride, int way, int score) {
        String text = "surfer a at " + place + " swims 1;surfer b at 0 swims 1;" + wave(1, 20, ways, high, far);
        WaveRight x = judge.isEmpty() ? sea(text) : judged(text, judge);
        x.comes();
        best(judge + " from " + place + ", " + ways + " high " + high + " long " + far, x, 0, ride, way, score);
    }

    // ---- best ride ----

    private static void bestAlone() {
        sentence("BEST RIDE: of all WAYS, RIDES by 0 TURNS that one could take now: the one of the greatest SCORE");
        alone("", 20, "both", 2, 8, 8, LEFT, 16);
        alone("", 20, "left", 2, 8, 8, LEFT, 16);
        alone("", 20, "right", 2, 8, 8, RIGHT, 16);
        alone("", 19, "both", 2, 8, 7, LEFT, 14);
        alone("", 21, "both", 2, 8, 7, RIGHT, 14);
        alone("", 19, "right", 2, 8, NONE, NONE, NONE);
        alone("", 21, "left", 2, 8, NONE, NONE, NONE);
        alone("", 13, "both", 2, 8, 1, LEFT, 2);
        alone("", 12, "both", 2, 8, NONE, NONE, NONE);
        alone("", 27, "both", 2, 8, 1, RIGHT, 2);
        alone("", 28, "both", 2, 8, NONE, NONE, NONE);
        alone("", 20, "both", 1, 1, 1, LEFT, 1);
        alone("", 20, "right", 6, 15, 15, RIGHT, 90);
        alone("plus turns*9+ride", 20, "both", 1, 4, 4, LEFT, 4);
        alone("plus 20-ride", 20, "both", 1, 4, 1, LEFT, 19);
        alone("plus 20 if ride=3;plus ride", 20, "right", 1, 4, 3, RIGHT, 23);
        sentence("of several the shortest, then left");
        alone("", 20, "both", 9, 15, 12, LEFT, 100);
        alone("", 20, "both", 9, 11, 11, LEFT, 99);
        alone("plus 10", 20, "both", 1, 8, 1, LEFT, 10);
        alone("plus 10", 20, "right", 1, 8, 1, RIGHT, 10);
        alone("plus 10 if ride>4;plus 10 if ride<2", 20, "both", 1, 8, 1, LEFT, 10);
        alone("plus 10 if ride>4", 20, "both", 1, 8, 5, LEFT, 10);
        alone("less 5", 20, "both", 1, 8, 1, LEFT, 0);
        sentence("UNJUDGED ones 0");
        alone("plus 1/0", 20, "both", 1, 8, 1, LEFT, 0);
        alone("plus 9999*9999*9999", 20, "both", 1, 8, 1, LEFT, 0);
        alone("plus ride+0/[8-ride]", 20, "both", 1, 8, 7, LEFT, 7);
        alone("plus ride+9999*9999*9999 if ride>3;plus ride", 20, "both", 1, 8, 3, LEFT, 3);
        alone("plus 0/[ride-1]", 20, "both", 1, 8, 1, LEFT, 0);
    }

    private static void bestAmong() {
        sentence("so as to HINDER nobody of those who have taken it");
        WaveRight x = sea("surfer a at 20 swims 1;surfer b at 22 swims 1;surfer c at 25 swims 1;surfer d at 26 swims 1;"
                + wave(1, 20, "both", 1, 8));
        x.comes();
        best("nobody has taken it", x, 1, 6, RIGHT, 6);
        x.take(1, RIGHT, 3, 0);
        best("one nearer has RIGHT", x, 0, 8, LEFT, 8);
        best("one farther whose first PLACE is another's last one", x, 2, NONE, NONE, NONE);
        best("one farther and clear of it", x, 3, 2, RIGHT, 2);
        x.take(3, RIGHT, 1, 0);
        best("hindered by nobody, though the one behind would be", x, 0, 8, LEFT, 8);
        x.take(0, LEFT, 2, 0);
        best("those who took it the other WAY", x, 2, NONE, NONE, NONE);

        WaveRight y = sea("surfer a at 20 swims 9;surfer b at 24 swims 9;surfer c at 16 swims 9;"
                + wave(1, 20, "both", 1, 8) + wave(5, 20, "both", 1, 8) + wave(9, 20, "right", 1, 8));
        y.comes();
        y.take(0, LEFT, 1, 0);
        y.comes();
        y.take(1, RIGHT, 3, 0);
        best("right as far as the one ahead in THE ROW leaves, left all", y, 0, 8, LEFT, 8);
        y.take(2, LEFT, 3, 0);
        best("as far as both leave", y, 0, 3, LEFT, 3);
        judgeBy(y, "plus ride if ride<3;plus 1");
        best("as far as both leave, by a judge", y, 0, 2, LEFT, 3);
        y.comes();
        y.take(1, RIGHT, 1, 0);
        judgeBy(y, "plus ride");
        best("ahead in THE ROW of the one who took it", y, 0, 8, RIGHT, 8);

        WaveRight z = sea("surfer a at 20 swims 9;surfer b at 20 swims 9;surfer c at 20 swims 9;" + wave(1, 20, "both", 1, 8));
        z.comes();
        z.take(0, LEFT, 1, 0);
        best("left would hinder, right does not", z, 1, 8, RIGHT, 8);
        z.take(1, RIGHT, 1, 0);
        best("both would hinder", z, 2, NONE, NONE, NONE);
        sentence("IllegalStateException: no WAVE is there, or that one is not OUT");
        is("best of one on the WAVE", () -> z.best(0, 0), STATE);
        z.comes();
        is("best when no WAVE is there", () -> z.best(2, 0), STATE);
        is("best(2, 3)", () -> z.best(2, 3), ELEMENT);
        is("best(2, -1)", () -> z.best(2, -1), ELEMENT);
        is("best(3, 3)", () -> z.best(3, 3), INDEX);
    }

    // ---- plan ----

    private static void plan(String told, WaveRight x, int surfer, int total, int first, int second) {
        due(told + ": TOTAL", x.plan(surfer, 0), total);
        due(told + ": first", x.plan(surfer, 1), first);
        due(told + ": second", x.plan(surfer, 2), second);
    }

    /** PLAN at the beginning of one at 20 who swims 5; waves of PEAK 20 without a judge bring HIGH times LONG. */
    private static void atFirst(String heat, int[][] waves, int total, int first, int second) {
        StringBuilder text = new StringBuilder("surfer a at 20 swims 5;surfer b at 20 swims 5;" + heat);
        for (int[] one : waves) {
            text.append(wave(one[0], 20, "left", one[1], one[2]));
        }
        plan(heat + Arrays.deepToString(waves), sea(text.toString()), 0, total, first, second);
    }

    private static void plans() {
        sentence("PLAN: two at most, by which TOTAL would be greatest");
        atFirst("", new int[][] {}, 0, NONE, NONE);
        atFirst("", new int[][] {{1, 2, 5}}, 10, 0, NONE);
        atFirst("", new int[][] {{2, 2, 5}, {9, 3, 5}}, 25, 0, 1);
        atFirst("", new int[][] {{2, 2, 5}, {9, 3, 5}, {20, 1, 5}}, 25, 0, 1);
        atFirst("", new int[][] {{2, 2, 5}, {9, 3, 5}, {20, 4, 5}}, 35, 1, 2);
        atFirst("", new int[][] {{2, 4, 5}, {9, 3, 5}, {20, 4, 5}}, 40, 0, 2);
        sentence("nor ahead of BACK of the one taken ahead");
        atFirst("", new int[][] {{2, 2, 5}, {4, 3, 5}}, 25, 0, 1);
        atFirst("", new int[][] {{2, 2, 5}, {3, 3, 5}}, 15, 1, NONE);
        atFirst("", new int[][] {{2, 3, 5}, {3, 2, 5}}, 15, 0, NONE);
        atFirst("", new int[][] {{2, 2, 6}, {5, 3, 5}}, 27, 0, 1);
        atFirst("", new int[][] {{2, 2, 6}, {4, 3, 5}}, 15, 1, NONE);
        atFirst("", new int[][] {{2, 2, 6}, {2, 2, 6}}, 12, 0, NONE);
        atFirst("", new int[][] {{2, 2, 15}, {5, 2, 14}}, 30, 0, NONE);
        sentence("up to MINUTE START and HEAT together");
        atFirst("heat 10;", new int[][] {{2, 2, 5}, {10, 3, 5}}, 25, 0, 1);
        atFirst("heat 9;", new int[][] {{2, 2, 5}, {10, 3, 5}}, 10, 0, NONE);
        atFirst("heat 1;", new int[][] {{2, 2, 5}}, 0, NONE, NONE);
        atFirst("", new int[][] {{30, 2, 5}, {31, 3, 5}}, 10, 0, NONE);
        sentence("of several the fewest, then the first ones");
        atFirst("", new int[][] {{2, 2, 5}, {9, 2, 5}, {20, 2, 5}}, 20, 0, 1);
        atFirst("", new int[][] {{2, 2, 5}, {3, 2, 5}, {20, 2, 5}}, 20, 0, 2);
        atFirst("", new int[][] {{2, 2, 5}, {2, 2, 5}}, 10, 0, NONE);
        atFirst("", new int[][] {{2, 1, 5}, {9, 2, 5}, {16, 2, 5}, {23, 1, 5}}, 20, 1, 2);
        atFirst("", new int[][] {{2, 9, 15}, {9, 9, 15}, {16, 9, 15}}, 200, 0, 1);
    }

    private static void plansLater() {
        sentence("of several the fewest: none that brings nothing more");
        String waves = wave(2, 20, "left", 5, 10) + wave(9, 20, "left", 3, 10) + wave(16, 20, "left", 3, 10)
                + wave(23, 20, "left", 6, 10);
        WaveRight x = sea("surfer a at 20 swims 5;surfer b at 20 swims 5;" + waves);
        plan("ahead of the first one", x, 0, 110, 0, 3);
        x.comes();
        sentence("of WAVES that are still to come (not the one that is there)");
        plan("while the first one is there", x, 0, 90, 1, 3);
        x.take(0, LEFT, 10, 0);
        is("plan of one on the WAVE", () -> x.plan(0, 0), STATE);
        plan("of the other one", x, 1, 90, 1, 3);
        x.comes();
        plan("one more is as good as two", x, 0, 110, 3, NONE);
        x.comes();
        plan("while the third one is there", x, 0, 110, 3, NONE);
        x.comes();
        x.take(0, LEFT, 10, 0);
        x.take(1, LEFT, 1, 0);
        sentence("IllegalStateException: the HEAT is OVER");
        due("comes", x.comes(), -1);
        is("plan when the HEAT is OVER", () -> x.plan(0, 0), STATE);
        is("plan(0, 3)", () -> x.plan(0, 3), ELEMENT);
        is("plan(0, -1)", () -> x.plan(0, -1), ELEMENT);
        is("plan(2, 3)", () -> x.plan(2, 3), INDEX);

        sentence("TOTAL by it of one with one HINDERING: the best one alone");
        WaveRight y = sea("surfer a at 20 swims 5;surfer b at 20 swims 5;" + waves);
        y.comes();
        y.take(0, LEFT, 10, 0);
        y.take(1, LEFT, 1, 0);
        y.comes();
        plan("of one who hindered", y, 1, 60, 3, NONE);
        plan("of the one who did not", y, 0, 110, 3, NONE);

        sentence("nothing is better than what one has");
        WaveRight z = judged("surfer a at 20 swims 5;surfer b at 20 swims 5;" + waves, "plus ride*9");
        for (int k = 0; k < 2; k++) {
            z.comes();
            z.take(0, LEFT, 10, 0);
        }
        z.comes();
        judgeBy(z, "less 1");
        plan("by a judge who gives nothing", z, 0, 180, NONE, NONE);
        plan("of one without a SCORE", z, 1, 0, NONE, NONE);
        judgeBy(z, "plus 1/0");
        plan("by a judge who cannot judge", z, 0, 180, NONE, NONE);
        judgeBy(z, "plus ride*9");
        plan("as good as what one has", z, 0, 180, NONE, NONE);
        judgeBy(z, "plus ride*9+1");
        plan("by 1 better", z, 0, 181, 3, NONE);
    }

    private static void plansByState() {
        sentence("from the PLACE where one is OUT now (or will be), none ahead of BACK");
        String text = "surfer a at 20 swims 5;surfer b at 0 swims 1;" + wave(2, 20, "left", 1, 15)
                + wave(3, 20, "left", 9, 10) + wave(6, 20, "left", 2, 10) + wave(7, 20, "left", 3, 10);
        WaveRight x = sea(text);
        x.goal(0, 9);
        plan("from the PLACE, not the GOAL", x, 0, 120, 1, 3);
        plan("of one who is too far from all", x, 1, 0, NONE, NONE);
        x.goal(0, 20);
        x.comes();
        x.take(0, LEFT, 15, 0);
        x.comes();
        due("BACK", x.surfer(0, 4), 6);
        plan("of one whose BACK is the MINUTE of a WAVE", x, 0, 45, 3, NONE);
        WaveRight y = sea(text.replace("wave 7 at", "wave 9 at"));
        y.comes();
        y.take(0, LEFT, 15, 0);
        y.comes();
        plan("from BACK on the first one and the second one", y, 0, 50, 2, 3);
        WaveRight z = sea("surfer a at 20 swims 5;surfer b at 0 swims 1;" + wave(2, 20, "left", 1, 15)
                + wave(3, 20, "left", 9, 10) + wave(5, 20, "left", 9, 10));
        plan("at first", z, 0, 90, 1, NONE);
        z.comes();
        z.take(0, LEFT, 15, 0);
        z.comes();
        plan("of one whose BACK is a MINUTE behind the last WAVE", z, 0, 15, NONE, NONE);

        sentence("each taken as BEST RIDE tells (as if it were there; minute by START; rides, best as now)");
        WaveRight m = judged("surfer a at 20 swims 5;surfer b at 20 swims 5;again 3;" + wave(3, 20, "left", 1, 5)
                + wave(7, 20, "left", 1, 5) + wave(20, 20, "left", 1, 5) + wave(36, 20, "left", 1, 5), "plus minute*2");
        plan("minute by START 0, up to 30", m, 0, 54, 1, 2);
        m.comes();
        plan("minute by START 0, as no WAVE above 3 came", m, 0, 54, 1, 2);
        m.comes();
        due("START", m.count(3), 6);
        plan("minute by START 6, up to 36", m, 0, 88, 2, 3);
        judgeBy(m, "plus rides*10+best+ride");
        m.take(0, LEFT, 5, 0);
        m.comes();
        due("SCORE", m.surfer(0, 9), 5);
        plan("rides 1, best 5", m, 0, 25, 3, NONE);
        WaveRight r = judged("surfer a at 20 swims 5;surfer b at 20 swims 5;" + wave(3, 20, "left", 1, 5)
                + wave(9, 20, "left", 1, 5), "plus rides*10+best+ride");
        plan("rides 0, best 0 for both", r, 0, 10, 0, 1);
        sentence("alone: as if nobody had taken it");
        WaveRight s = sea("surfer a at 20 swims 5;surfer b at 20 swims 5;" + wave(3, 20, "left", 1, 5)
                + wave(9, 20, "left", 1, 5));
        s.comes();
        s.take(0, LEFT, 5, 0);
        plan("of one who has no RIGHT of the one on the WAVE", s, 1, 5, 1, NONE);
    }

    private static void plansOfSeasInTurn() {
        sentence("it is THE SEA in place of the one before: of its own WAVES alone");
        String surfers = "surfer a at 20 swims 5;surfer b at 20 swims 5;";
        String first = wave(2, 20, "left", 3, 5);
        String second = wave(9, 20, "left", 4, 5);
        WaveRight x = new WaveRight();
        for (String waves : new String[] {first + second, first + second, first, first, "", "", first + second, "", first}) {
            write(x, surfers + waves);
            due("sea", x.sea(), waves.isEmpty() ? 0 : waves.equals(first) ? 1 : 2);
            if (waves.isEmpty()) {
                plan("of no WAVE", x, 0, 0, NONE, NONE);
            } else if (waves.equals(first)) {
                plan("of one WAVE", x, 0, 15, 0, NONE);
            } else {
                plan("of two WAVES", x, 0, 35, 0, 1);
            }
        }
    }

    // ---- looking back ----

    /** Waves at 20 in turn taken by the first one (left) so that the SCORES told are SEEN, the last one the latest. */
    private static WaveRight seen(int... scores) {
        StringBuilder text = new StringBuilder("surfer a at 20 swims 9;surfer b at 20 swims 9;heat 60;");
        for (int k = 0; k <= scores.length; k++) {
            text.append("wave ").append(5 * k + 1).append(" at 20 both high 1 long 15;");
        }
        WaveRight x = judged(text.toString(), "plus [ride-1]*10+turns");
        x.comes();
        for (int score : scores) {
            x.take(0, LEFT, score / 10 + 1, score % 10);
            x.comes();
        }
        return x;
    }

    private static void seens() {
        sentence("SEEN are the SCORES of the latest 6 RIDES that were JUDGED in this HEAT");
        WaveRight x = seen(1, 2, 3, 4, 5);
        int[] five = {5, 4, 3, 2, 1, -1, -1};
        int[] six = {6, 5, 4, 3, 2, 1, -1};
        int[] seven = {7, 6, 5, 4, 3, 2, -1};
        WaveRight y = seen(1, 2, 3, 4, 5, 6);
        WaveRight z = seen(1, 2, 3, 4, 5, 6, 7);
        for (int k = 0; k < 7; k++) {
            due("seen(" + k + ") of 5", x.seen(k), five[k]);
            due("seen(" + k + ") of 6", y.seen(k), six[k]);
            due("seen(" + k + ") of 7", z.seen(k), seven[k]);
        }
        for (int none : new int[] {-1, Integer.MIN_VALUE, Integer.MAX_VALUE}) {
            due("seen(" + none + ")", z.seen(none), -1);
        }
        due("a SCORE of 0 is SEEN", seen(0).seen(0), 0);
        z.anew();
        due("seen(0) anew", z.seen(0), -1);
        is("worth anew", () -> z.worth(0, 0, 0), STATE);
        sentence("of all SURFERS; UNJUDGED and HINDERING ones not");
        WaveRight w = judged("surfer a at 20 swims 9;surfer b at 20 swims 9;surfer c at 20 swims 9;surfer d at 29 swims 9;"
                + wave(1, 20, "both", 1, 15) + wave(9, 20, "both", 1, 15), "plus turns*10+0/[ride-4]");
        w.comes();
        w.take(3, RIGHT, 1, 3);
        w.take(2, RIGHT, 4, 9);
        w.take(1, LEFT, 1, 8);
        w.take(0, LEFT, 1, 7);
        due("seen(0) while all are on the WAVE", w.seen(0), -1);
        w.comes();
        due("seen(0), the last by number", w.seen(0), 30);
        due("seen(1), the first by number", w.seen(1), 70);
        due("seen(2)", w.seen(2), -1);
    }

    private static void worths() {
        sentence("WORTH with n WAVES to come (0 to 6), r RIDES left (0 to 6)");
        WaveRight one = seen(40);
        int[][] second = {{0, 0, 0}, {0, 6, 0}, {6, 0, 0}, {1, 1, 40}, {1, 6, 40}, {2, 1, 40}, {2, 2, 80}, {6, 1, 40}, {6, 2, 80},
            {6, 6, 80}};
        for (int[] k : second) {
            due("worth(1, " + k[0] + ", " + k[1] + ") by one SEEN", one.worth(1, k[0], k[1]), k[2]);
        }
        int[][] first = {{0, 0, 40}, {0, 6, 40}, {6, 0, 40}, {1, 1, 80}, {6, 6, 80}};
        for (int[] k : first) {
            due("worth(0, " + k[0] + ", " + k[1] + ") by one SEEN", one.worth(0, k[0], k[1]), k[2]);
        }
        sentence("the most of TOTAL that comes in all ways of n WAVES together");
        WaveRight two = seen(10, 40);
        int[][] without = {{0, 3, 0}, {1, 1, 50}, {2, 1, 130}, {2, 2, 200}, {3, 1, 290}, {4, 1, 610}, {5, 1, 1250}, {6, 1, 2530},
            {6, 6, 4880}, {6, 0, 0}};
        for (int[] k : without) {
            due("worth(1, " + k[0] + ", " + k[1] + ") by two SEEN", two.worth(1, k[0], k[1]), k[2]);
        }
        int[][] with = {{0, 0, 50}, {1, 0, 100}, {6, 0, 3200}, {1, 1, 130}, {2, 1, 290}, {2, 2, 290}, {6, 1, 5090}, {6, 6, 5090}};
        for (int[] k : with) {
            due("worth(0, " + k[0] + ", " + k[1] + ") by two SEEN", two.worth(0, k[0], k[1]), k[2]);
        }
        WaveRight turned = seen(40, 10);
        for (int[] k : without) {
            due("worth(1, " + k[0] + ", " + k[1] + ") by the two in turn", turned.worth(1, k[0], k[1]), k[2]);
        }
        sentence("each WAVE is one of the SEEN ones, all as likely");
        due("worth of like ones", seen(10, 10, 40).worth(1, 1, 1), 60);
        due("worth of like ones, 2 WAVES", seen(10, 10, 40).worth(1, 2, 2), 80 + 4 * 50 + 4 * 20);
        // the greatest of 6 drawn is 10k or less in k^6 ways, the second greatest in k^6 + 6 (6 - k) k^5 ways
        WaveRight six = seen(10, 20, 30, 40, 50, 60);
        due("worth(1, 6, 6) by six SEEN", six.worth(1, 6, 6), 2594210 + 2232110);
        due("worth(0, 6, 0) by six SEEN", six.worth(0, 6, 0), 110 * 46656);
        due("worth(1, 1, 1) by six SEEN", six.worth(1, 1, 1), 210);
        due("worth(0, 0, 6) by six SEEN", six.worth(0, 0, 6), 110);
        WaveRight hundred = seen(100, 100, 100, 100, 100, 100);
        due("the greatest worth", hundred.worth(0, 6, 6), 9331200);
        due("the greatest worth of one without", hundred.worth(1, 6, 6), 9331200);
        due("the greatest worth of one without, one RIDE", hundred.worth(1, 6, 1), 4665600);
        due("worth by SCORES of 0", seen(0).worth(0, 6, 6), 0);
        sentence("WORTH by the latest 6 alone");
        due("worth(1, 1, 1) by seven", seen(90, 1, 2, 3, 4, 5, 6).worth(1, 1, 1), 21);
        worthsRefused(one);
    }

    private static void worthsRefused(WaveRight x) {
        sentence("best two by one's SCORES now, HINDERING aside");
        WaveRight z = seen(20, 30);
        z.take(0, LEFT, 1, 0);
        z.take(1, LEFT, 2, 0);
        z.comes();
        due("HINDERINGS", z.surfer(0, 5), 1);
        due("TOTAL of one who hindered", z.surfer(0, 7), 30);
        due("worth(0, 0, 0) of one who hindered", z.worth(0, 0, 0), 50);
        due("worth(0, 1, 1) of one who hindered", z.worth(0, 1, 1), 50 + 60 + 50);
        due("least(0, 1, 1) of one who hindered", z.least(0, 1, 1), 24);
        sentence("IllegalArgumentException: one is none");
        for (int none : new int[] {-1, 7, Integer.MIN_VALUE, Integer.MAX_VALUE}) {
            is("worth(0, " + none + ", 0)", () -> x.worth(0, none, 0), ARGUMENT);
            is("worth(0, 0, " + none + ")", () -> x.worth(0, 0, none), ARGUMENT);
            is("least(0, " + none + ", 1)", () -> x.least(0, none, 1), ARGUMENT);
            is("least(0, 0, " + none + ")", () -> x.least(0, 0, none), ARGUMENT);
        }
        is("least(0, 0, 0)", () -> x.least(0, 0, 0), ARGUMENT);
        is("worth(2, 7, 7)", () -> x.worth(2, 7, 7), INDEX);
        is("least(2, 7, 0)", () -> x.least(2, 7, 0), INDEX);
        sentence("IllegalStateException: nothing is SEEN");
        WaveRight y = seen(30, 50);
        y.anew();
        is("worth(0, 0, 0)", () -> y.worth(0, 0, 0), STATE);
        is("least(0, 0, 1)", () -> y.least(0, 0, 1), STATE);
        is("worth(0, 7, 0)", () -> y.worth(0, 7, 0), ARGUMENT);
        is("least(0, 0, 0)", () -> y.least(0, 0, 0), ARGUMENT);
    }

    private static void leasts() {
        sentence("TAKE: the least SCORE (0 to 100) by which to take it is worth as much or more than to wait");
        WaveRight one = seen(40);
        int[][] single = {{0, 1, 0}, {0, 6, 0}, {1, 1, 40}, {6, 1, 40}, {1, 2, 0}, {2, 2, 40}, {6, 2, 40}, {3, 3, 0}, {6, 3, 0},
            {6, 6, 0}};
        for (int[] k : single) {
            due("least(1, " + k[0] + ", " + k[1] + ") by one SEEN", one.least(1, k[0], k[1]), k[2]);
        }
        WaveRight two = seen(10, 40);
        int[] alone = {0, 25, 33, 37, 39, 40, 40};
        for (int n = 0; n < 7; n++) {
            due("least(1, " + n + ", 1) by two SEEN", two.least(1, n, 1), alone[n]);
        }
        due("least(0, 1, 1) of one with both", two.least(0, 1, 1), 25);
        due("least(0, 0, 1) of one with both", two.least(0, 0, 1), 0);
        due("the greatest TAKE", seen(100).least(1, 1, 1), 100);
        due("the greatest TAKE with all", seen(100, 100, 100, 100, 100, 100).least(1, 6, 1), 100);
        due("TAKE of one who has the best two", seen(100, 100).least(0, 6, 1), 0);
        due("TAKE by a SCORE of 0", seen(0).least(1, 6, 1), 0);
        due("TAKE by a SCORE of 1", seen(1).least(1, 6, 1), 1);
    }

    // ---- swim, reach ----

    private static void swims() {
        sentence("The first MINUTE at which a SURFER could be at a PLACE: from the MINUTE that it is on, SWIMS PLACES a MINUTE");
        WaveRight x = sea("surfer a at 10 swims 3;surfer b at 40 swims 9;surfer c at 0 swims 1;" + wave(5, 10, "both", 1, 9)
                + wave(6, 10, "both", 1, 9));
        int[][] cases = {{0, 10, 0}, {0, 11, 1}, {0, 13, 1}, {0, 14, 2}, {0, 7, 1}, {0, 6, 2}, {0, 0, 4}, {0, 40, 10}, {1, 40, 0},
            {1, 0, 5}, {1, 4, 4}, {1, 3, 5}, {2, 0, 0}, {2, 1, 1}, {2, 40, 40}};
        for (int[] one : cases) {
            due("swim(" + one[0] + ", " + one[1] + ") at first", x.swim(one[0], one[1]), one[2]);
        }
        x.goal(0, 40);
        due("a GOAL changes nothing", x.swim(0, 13), 1);
        x.goal(0, 10);
        x.comes();
        for (int[] one : cases) {
            due("swim(" + one[0] + ", " + one[1] + ") at 5", x.swim(one[0], one[1]), 5 + one[2]);
        }
        sentence("or BACK on");
        x.take(0, RIGHT, 4, 0);
        is("swim of one on the WAVE", () -> x.swim(0, 10), STATE);
        x.comes();
        due("BACK", x.surfer(0, 4), 8);
        due("to where one will be", x.swim(0, 10), 8);
        due("as far as in a MINUTE", x.swim(0, 13), 9);
        due("one farther", x.swim(0, 14), 10);
        x.comes();
        due("swim when the HEAT is OVER", x.swim(2, 3), 9);
        due("swim from BACK on when the HEAT is OVER", x.swim(0, 7), 9);
        sentence("IllegalArgumentException: the PLACE is none");
        for (int none : new int[] {-1, 41, Integer.MIN_VALUE, Integer.MAX_VALUE}) {
            is("swim(0, " + none + ")", () -> x.swim(0, none), ARGUMENT);
        }
        is("swim(3, 41)", () -> x.swim(3, 41), INDEX);
        is("swim(-1, 41)", () -> x.swim(-1, 41), INDEX);
    }

    private static void reach(String told, WaveRight x, int surfer, int wave, int many, int least, int greatest) {
        due(told + ": how many", x.reach(surfer, wave, 0), many);
        due(told + ": the least", x.reach(surfer, wave, 1), least);
        due(told + ": the greatest", x.reach(surfer, wave, 2), greatest);
    }

    /** REACH at the beginning for the only WAVE. */
    private static void reached(int place, int swims, String wave, int many, int least, int greatest) {
        reach("from " + place + " by " + swims + " for " + wave, sea("surfer a at " + place + " swims " + swims
                + ";surfer b at 0 swims 1;" + wave), 0, 0, many, least, greatest);
    }

    private static void reaches() {
        sentence("of the PLACES (0 to 40) at which that one could be by its MINUTE, and from which it can be taken by a RIDE of 1");
        reached(10, 2, wave(3, 12, "both", 1, 4), 7, 9, 15);
        reached(10, 2, wave(3, 12, "left", 1, 4), 4, 9, 12);
        reached(10, 2, wave(3, 12, "right", 1, 4), 4, 12, 15);
        reached(10, 2, wave(1, 12, "both", 1, 4), 4, 9, 12);
        reached(10, 2, wave(2, 12, "both", 1, 4), 6, 9, 14);
        reached(10, 2, wave(9, 12, "both", 1, 1), 1, 12, 12);
        reached(10, 2, wave(1, 12, "both", 1, 1), 1, 12, 12);
        reached(10, 2, wave(1, 13, "both", 1, 1), 0, NONE, NONE);
        reached(10, 2, wave(1, 40, "both", 1, 15), 0, NONE, NONE);
        reached(10, 2, wave(1, 22, "left", 1, 11), 1, 12, 12);
        reached(10, 2, wave(1, 22, "left", 1, 10), 0, NONE, NONE);
        reached(10, 2, wave(1, 22, "right", 1, 15), 0, NONE, NONE);
        reached(10, 9, wave(9, 1, "both", 1, 4), 5, 0, 4);
        reached(10, 9, wave(9, 0, "left", 1, 4), 1, 0, 0);
        reached(10, 9, wave(9, 39, "both", 1, 4), 5, 36, 40);
        reached(10, 9, wave(9, 40, "right", 1, 4), 1, 40, 40);
        reached(20, 9, wave(99, 20, "both", 1, 15), 29, 6, 34);
        reached(0, 1, wave(5, 3, "both", 1, 15), 6, 0, 5);
        sentence("for a WAVE that is still to come (whether the HEAT ENDS ahead of it or not)");
        WaveRight x = sea("surfer a at 10 swims 2;surfer b at 0 swims 1;heat 6;" + wave(4, 10, "both", 1, 9)
                + wave(4, 10, "both", 1, 9) + wave(6, 10, "both", 1, 2) + wave(7, 10, "both", 1, 2) + wave(8, 10, "both", 1, 9));
        x.comes();
        is("reach of the WAVE that is there", () -> x.reach(0, 0, 0), ELEMENT);
        reach("for one of the MINUTE that it is", x, 0, 1, 1, 10, 10);
        reach("for one behind the end", x, 0, 4, 17, 2, 18);
        x.take(0, LEFT, 6, 0);
        is("reach of one on the WAVE", () -> x.reach(0, 1, 0), STATE);
        x.comes();
        due("BACK", x.surfer(0, 4), 8);
        is("reach of the WAVE that is there, of one who swims back", () -> x.reach(0, 1, 0), ELEMENT);
        reach("a MINUTE ahead of BACK", x, 0, 3, 0, NONE, NONE);
        reach("at BACK", x, 0, 4, 1, 10, 10);
        x.comes();
        due("comes behind the end", x.comes(), -1);
        reach("when the HEAT is OVER", x, 0, 4, 1, 10, 10);
        is("reach of one that went by", () -> x.reach(0, 2, 0), ELEMENT);
        is("reach(0, 3, 3)", () -> x.reach(0, 3, 3), ELEMENT);
        is("reach(0, 3, -1)", () -> x.reach(0, 3, -1), ELEMENT);
        is("reach(0, 5, 3)", () -> x.reach(0, 5, 3), INDEX);
        is("reach(0, -1, 3)", () -> x.reach(0, -1, 3), INDEX);
        is("reach(2, 0, 3)", () -> x.reach(2, 0, 3), INDEX);
        WaveRight y = sea("surfer a at 10 swims 2;surfer b at 0 swims 1;" + wave(4, 10, "both", 1, 9) + wave(6, 10, "both", 1, 9)
                + wave(8, 10, "both", 1, 3));
        y.comes();
        y.take(0, RIGHT, 1, 0);
        y.comes();
        due("OUT again at once", y.surfer(0, 2), 1);
        y.take(0, RIGHT, 1, 0);
        y.anew();
        reach("anew", y, 0, 0, 17, 2, 18);
    }

    public static void main(String[] args) {
        bestAlone();
        bestAmong();
        plans();
        plansLater();
        plansByState();
        plansOfSeasInTurn();
        seens();
        worths();
        leasts();
        swims();
        reaches();
        finish();
    }
}
