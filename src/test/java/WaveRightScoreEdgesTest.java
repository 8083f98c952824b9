import java.util.Arrays;

/**
 * The bounds of what a RIDE brings and who leads, sentence by sentence (promises 10, 17 to 20; SCORE, TOTAL, RANK, NEED).
 */
public final class WaveRightScoreEdgesTest extends Due {
    private static final int LEFT = 0;
    private static final int RIGHT = 1;
    private static final String TWO = "surfer a at 20 swims 9;surfer b at 20 swims 9;heat 60;";
    // 2147483647 and -2147483648; 21 * 9999 + 4790 is 214769, times 9999 that is 2147475231
    private static final String MOST = "[21*9999+4790]*9999+8416";
    private static final String LEAST = "0-[21*9999+4790]*9999-8416-1";

    /** The SCORE of a RIDE of 3 by 2 TURNS from PLACE 12, PEAK 10, HIGH 4, LONG 6, MINUTE 7, the first one. */
    private static void scored(String judge, int due) {
        WaveRight x = judged(TWO + "wave 7 at 10 both high 4 long 6;", judge);
        due(judge, x.would(0, 0, 12, 3, 2), due);
    }

    // ---- the arithmetic of the judge ----

    private static void clipped() {
        sentence("at last 0 at least, 100 at most");
        scored("plus 0", 0);
        scored("plus 1", 1);
        scored("less 1", 0);
        scored("less 9999", 0);
        scored("plus 99", 99);
        scored("plus 100", 100);
        scored("plus 101", 100);
        scored("plus 9999*9999", 100);
        scored("plus 5;less 5", 0);
        scored("plus 5;less 6", 0);
        scored("less 6;plus 7", 1);
        scored("plus 150;less 60", 90);
        scored("plus 0-7;plus 8", 1);
        sentence("each LINE from the first on: if its C holds (or it has none), its SUM is added (plus) or taken away (less)");
        scored("plus 1;".repeat(9) + "plus 1", 10);
        scored("plus 10;less 3 if 1=1", 7);
        scored("plus 10;less 3 if 1=2", 10);
        scored("plus 10 if 1=2", 0);
        scored("plus 10 if 1=2;plus 4 if 1=1;less 1", 3);
        scored("plus 1/0 if 1=2;plus 4", 4);
    }

    private static void ints() {
        sentence("All is reckoned in ints, / cut towards 0");
        scored("plus 7/2", 3);
        scored("plus 10+[0-7]/2", 7);
        scored("plus 10+7/[0-2]", 7);
        scored("plus 10+[0-7]/[0-2]", 13);
        scored("plus 10+[0-1]/2", 10);
        scored("plus 10+1/2", 10);
        scored("plus 0/5", 0);
        sentence("SUMS from the left on");
        scored("plus 10-3-2", 5);
        scored("plus 20-3+2", 19);
        scored("plus 20-[3+2]", 15);
        scored("plus 16/4/2", 2);
        scored("plus 16/4*2", 8);
        scored("plus 16/[4*2]", 2);
        scored("plus 3*4/5", 2);
        scored("plus 3*[4/5]", 0);
        scored("plus 2+3*4", 14);
        scored("plus [2+3]*4", 20);
        scored("plus 20-2*3-4/2", 12);
        sentence("Where one step is beyond an int, the RIDE is UNJUDGED by that (1: beyond)");
        scored("plus " + MOST, 100);
        scored("plus " + MOST + "+1", -1);
        scored("plus 1+" + MOST, -1);
        scored("plus " + MOST + "-1+1", 100);
        scored("plus " + MOST + "+1-1", -1);
        scored("plus 7 if " + LEAST + "<0", 7);
        scored("plus 7 if " + LEAST + "-1<0", -1);
        scored("plus 7 if " + LEAST + "+1<0", 7);
        scored("plus 0-[" + LEAST + "]", -1);
        scored("plus 0-1-[" + LEAST + "]", 100);
        scored("plus [" + LEAST + "]/[0-1]", -1);
        scored("plus 7 if [" + LEAST + "]/1<0", 7);
        scored("plus [" + LEAST + "]*[0-1]", -1);
        scored("plus 7 if [0-8192*8]*[8192*4]<0", 7);
        scored("plus 7 if [8192*8]*[8192*4]<0", -1);
        scored("plus 7 if [8192*8]*[0-8192*4]-1<0", -1);
        scored("plus [8192*8]*[8192*8]", -1);
        scored("plus 9999*9999*9999", -1);
        scored("plus 9999*9999*0", 0);
        scored("plus " + MOST + ";plus 1", -1);
        scored("plus " + MOST + ";less 1", 100);
        scored("plus 1;plus " + MOST, -1);
        scored("less " + MOST + ";less 1", 0);
        scored("less " + MOST + ";less 1;plus 9", 0);
        scored("less " + MOST + ";less 1;less 1", -1);
        scored("less " + LEAST, -1);
        scored("less 1;less " + LEAST, 100);
        scored("plus " + LEAST + ";plus 1", 0);
        scored("plus " + LEAST + ";less 1", -1);
    }

    private static void byZero() {
        sentence("or parts by 0, the RIDE is UNJUDGED by that (2: by 0)");
        scored("plus 1/0", -2);
        scored("plus 0/0", -2);
        scored("plus 5/[ride-3]", -2);
        scored("plus 5/[ride-2]", 5);
        scored("plus 5/[ride-4]", 0);
        scored("plus 5;less 1/0", -2);
        scored("plus 7 if 1/0=1", -2);
        scored("plus [" + LEAST + "]/0", -2);
        sentence("the first one counts");
        scored("plus " + MOST + "+1+1/0", -1);
        scored("plus 1/0+" + MOST + "+1", -2);
        scored("plus " + MOST + "+1/0", -2);
        scored("plus [" + MOST + "+1]*[1/0]", -1);
        scored("plus [1/0]*[" + MOST + "+1]", -2);
        scored("plus " + MOST + "+1;plus 1/0", -1);
        scored("plus " + MOST + ";plus 1;plus 1/0", -1);
        scored("plus " + MOST + ";plus 1/0;plus 1", -2);
        scored("plus 1/0;plus " + MOST + "+1", -2);
        scored("plus 1/0 if " + MOST + "+1>0", -1);
        scored("plus " + MOST + "+1 if 1/0=0", -2);
        scored("plus 1 if " + MOST + "+1>1/0", -1);
        scored("plus 1 if 1/0<" + MOST + "+1", -2);
    }

    private static void truths() {
        sentence("SIGN: <, =, >");
        scored("plus 3 if 1<2", 3);
        scored("plus 3 if 2<2", 0);
        scored("plus 3 if 3<2", 0);
        scored("plus 3 if 1=2", 0);
        scored("plus 3 if 2=2", 3);
        scored("plus 3 if 3=2", 0);
        scored("plus 3 if 1>2", 0);
        scored("plus 3 if 2>2", 0);
        scored("plus 3 if 3>2", 3);
        scored("plus 3 if 0-1<0", 3);
        scored("plus 3 if " + MOST + ">" + LEAST, 3);
        scored("plus 3 if " + LEAST + "<" + MOST, 3);
        scored("plus 3 if 1+1=4-2", 3);
        sentence("C from the left on and no further than is needed");
        scored("plus 3 if 1=1 or 1/0=1", 3);
        scored("plus 3 if 1=2 or 1/0=1", -2);
        scored("plus 3 if 1/0=1 or 1=1", -2);
        scored("plus 3 if 1=2 and 1/0=1", 0);
        scored("plus 3 if 1=1 and 1/0=1", -2);
        scored("plus 3 if 1/0=1 and 1=2", -2);
        scored("plus 3 if 1=2 and 1/0=1 and 1/0=1", 0);
        scored("plus 3 if 1=2 and 1/0=1 or 1=1", 3);
        scored("plus 3 if 1=2 and 1/0=1 or 1=2", 0);
        scored("plus 3 if 1=1 and 1=1 or 1/0=1", 3);
        scored("plus 3 if 1=1 or 1/0=1 and 1/0=1", 3);
        scored("plus 3 if 1=1 or 1/0=1 or 1/0=1", 3);
        scored("plus 3 if 1=1 or 1=1 and 1=2", 3);
        scored("plus 3 if (1=1 or 1=1) and 1=2", 0);
        scored("plus 3 if 1=2 or 1=2 or 1=1", 3);
        scored("plus 3 if 1=1 and 1=1 and 1=2", 0);
        scored("plus 3 if (1=2 and 1/0=1) or 1=1", 3);
        scored("plus 3 if (1=1 or 1/0=1) and 1=1", 3);
        scored("plus 3 if (1=1 or 1/0=1) and 1/0=1", -2);
        sentence("ATOM: not ATOM | ( C ) | SUM SIGN SUM");
        scored("plus 3 if not 1=1", 0);
        scored("plus 3 if not 1=2", 3);
        scored("plus 3 if not not 1=1", 3);
        scored("plus 3 if not not not 1=1", 0);
        scored("plus 3 if not 1=2 or 1/0=1", 3);
        scored("plus 3 if not 1=1 and 1/0=1", 0);
        scored("plus 3 if not (1=1 or 1/0=1)", 0);
        scored("plus 3 if not (1=2 and 1/0=1)", 3);
        scored("plus 3 if not (1=2 or 1=2) and not (1=1 and 1=2)", 3);
        scored("plus 3 if not (not (1=1) or 1=2)", 3);
        scored("plus 3 if " + "not ".repeat(95) + "1=2", 3);
        sentence("( and [ within one another at most 6 deep");
        scored("plus 1+1*[1+1*[1+1*[1+1*[1+1*[1+1*[1+1*5]]]]]]", 12);
        scored("plus 3 if 13-1*[1+1*[1+1*[1+1*[1+1*[1+1*[1+1*5]]]]]]=2", 3);
        scored("plus 3 if 3+9*[9-8]=1+1*[1+1*[1+1*[1+1*[1+1*[1+1*[1+1*5]]]]]]", 3);
        scored("plus 100-1*[99-1*[98-1*[97-1*[96-1*[95-1*[94-1*93]]]]]]", 4);
        scored("plus 64/[32/[16/[8/[4/[2/[1]]]]]]", 8);
        scored("plus 3 if ((((((1=2) or 2=2) and 3=3) or 1/0=1) and 4=4) and 5=5)", 3);
    }

    // ---- what the judge knows ----

    private static void facts() {
        sentence("high, long of the WAVE; ride, turns as told; far: from the PEAK to the first PLACE");
        scored("plus high", 4);
        scored("plus long", 6);
        scored("plus ride", 3);
        scored("plus far", 2);
        scored("plus turns", 2);
        scored("plus minute", 7);
        scored("plus rides", 0);
        scored("plus best", 0);
        WaveRight x = judged(TWO + "wave 1 at 10 left high 9 long 15;wave 30 at 40 right high 1 long 1;", "plus far");
        int[][] fars = {{0, 0, 10}, {0, 9, 1}, {0, 10, 0}, {0, 11, 1}, {0, 40, 30}, {1, 40, 0}, {1, 0, 40}};
        for (int[] far : fars) {
            due("far from " + far[1] + " by WAVE " + far[0], x.would(0, far[0], far[1], 1, 0), far[2]);
        }
        judgeBy(x, "plus ride*4+turns");
        due("the least RIDE and TURNS", x.would(0, 0, 0, 1, 0), 4);
        due("the greatest RIDE and TURNS", x.would(0, 0, 0, 20, 9), 89);
        judgeBy(x, "plus high*10+long/5");
        due("the greatest HIGH and LONG", x.would(0, 0, 0, 1, 0), 93);
        due("the least HIGH and LONG", x.would(0, 1, 0, 1, 0), 10);
        sentence("minute: from START on");
        WaveRight y = judged(TWO + "again 4;wave 4 at 20 both high 1 long 9;wave 9 at 20 both high 1 long 9;"
                + "wave 64 at 20 both high 1 long 9;wave 99 at 20 both high 1 long 9;", "plus minute+10");
        due("ahead of the first one", y.would(0, 1, 0, 1, 0), 19);
        y.comes();
        due("the first one, START 0", y.would(0, 0, 0, 1, 0), 14);
        y.comes();
        due("START", y.count(3), 8);
        due("the second one, START 8", y.would(0, 1, 0, 1, 0), 11);
        due("the first one, START 8", y.would(0, 0, 0, 1, 0), 6);
        due("the last one, START 8", y.would(0, 3, 0, 1, 0), 100);
        y.take(0, LEFT, 1, 0);
        y.comes();
        due("SCORE of the second one", y.ride(0, 0, 0), 11);
        ahead();
    }

    private static void ahead() {
        sentence("rides: how many RIDES of that SURFER are JUDGED ahead; best: that one's best SCORE ahead (0 without)");
        WaveRight x = judged("surfer a at 20 swims 9;surfer b at 20 swims 9;heat 60;wave 5 at 20 both high 1 long 15;"
                + "wave 10 at 20 both high 1 long 15;wave 15 at 20 both high 1 long 15;wave 20 at 20 both high 1 long 15;"
                + "wave 25 at 20 both high 1 long 15;", "plus rides*30+ride");
        x.comes();
        x.take(0, LEFT, 7, 0);
        x.take(1, RIGHT, 4, 0);
        due("rides while the first one is on the WAVE", x.would(0, 1, 0, 1, 0), 1);
        x.comes();
        due("SCORE of the first RIDE", x.ride(0, 0, 0), 7);
        due("rides behind one", x.would(0, 1, 0, 1, 0), 31);
        x.take(0, LEFT, 2, 0);
        x.comes();
        due("SCORE of the second RIDE", x.ride(0, 1, 0), 32);
        due("rides behind two", x.would(0, 4, 0, 1, 0), 61);
        due("rides of the other one", x.would(1, 4, 0, 1, 0), 31);
        judgeBy(x, "plus best+1/turns");
        due("best of two", x.would(0, 4, 0, 1, 2), 32);
        due("best of one", x.would(1, 4, 0, 1, 2), 4);
        x.take(0, LEFT, 9, 0);
        x.take(1, LEFT, 9, 0);
        x.comes();
        due("HINDERED by it", x.ride(0, 2, 5), 1);
        due("UNJUDGED by", x.ride(1, 1, 6), 2);
        due("best behind one that HINDERED", x.would(0, 4, 0, 1, 2), 32);
        due("best behind one UNJUDGED", x.would(1, 4, 0, 1, 2), 4);
        judgeBy(x, "plus rides*10");
        due("rides with one that HINDERED", x.would(0, 4, 0, 1, 0), 30);
        due("rides with one UNJUDGED", x.would(1, 4, 0, 1, 0), 20);
        x.anew();
        due("rides anew", x.would(0, 4, 0, 1, 0), 0);
        judgeBy(x, "plus best");
        due("best anew", x.would(0, 4, 0, 1, 0), 0);
    }

    private static void withoutText() {
        sentence("Without a text: HIGH times RIDE, 100 at most");
        WaveRight x = sea(TWO + "wave 1 at 20 both high 9 long 15;wave 5 at 20 both high 5 long 15;"
                + "wave 6 at 20 both high 1 long 15;");
        due("9 by 1", x.would(0, 0, 20, 1, 0), 9);
        due("9 by 11", x.would(0, 0, 20, 11, 9), 99);
        due("9 by 12", x.would(0, 0, 20, 12, 0), 100);
        due("9 by 20", x.would(0, 0, 20, 20, 0), 100);
        due("5 by 20", x.would(0, 1, 20, 20, 0), 100);
        due("5 by 19", x.would(0, 1, 20, 19, 0), 95);
        due("1 by 1", x.would(0, 2, 20, 1, 0), 1);
        x.comes();
        x.take(0, LEFT, 15, 9);
        x.comes();
        due("SCORE", x.ride(0, 0, 0), 100);
    }

    private static void woulds() {
        sentence("SCORE that a RIDE by a WAVE from a PLACE would have (whether it could be or not)");
        WaveRight x = judged(TWO + "wave 1 at 20 left high 9 long 3;wave 9 at 20 right high 9 long 3;", "plus 50");
        due("on the other side", x.would(0, 0, 21, 1, 0), 50);
        due("too far", x.would(0, 0, 20, 4, 0), 50);
        due("of a WAVE that is to come", x.would(1, 1, 20, 1, 0), 50);
        x.comes();
        x.take(0, LEFT, 1, 0);
        x.take(1, LEFT, 1, 0);
        due("of one on the WAVE", x.would(0, 0, 20, 1, 0), 50);
        x.comes();
        due("of a WAVE that went by", x.would(0, 0, 20, 1, 0), 50);
        due("of one who swims back", x.would(1, 1, 20, 1, 0), 50);
        x.comes();
        due("when the HEAT is OVER", x.would(1, 1, 20, 1, 0), 50);
        sentence("IllegalArgumentException: PLACE (0 to 40), RIDE, TURNS is none");
        due("PLACE 0", x.would(0, 0, 0, 1, 0), 50);
        due("PLACE 40", x.would(0, 0, 40, 1, 0), 50);
        due("RIDE 20, TURNS 9", x.would(0, 0, 40, 20, 9), 50);
        for (int none : new int[] {-1, 41, Integer.MIN_VALUE, Integer.MAX_VALUE}) {
            is("PLACE " + none, () -> x.would(0, 0, none, 1, 0), ARGUMENT);
        }
        for (int none : new int[] {0, -1, 21, Integer.MIN_VALUE, Integer.MAX_VALUE}) {
            is("RIDE " + none, () -> x.would(0, 0, 0, none, 0), ARGUMENT);
        }
        for (int none : new int[] {-1, 10, Integer.MIN_VALUE, Integer.MAX_VALUE}) {
            is("TURNS " + none, () -> x.would(0, 0, 0, 1, none), ARGUMENT);
        }
    }

    private static void judgedByTheLatest() {
        sentence("GOES BY: each who took it, by numbers, is JUDGED (by THE JUDGE that there is then)");
        WaveRight x = judged(TWO + "wave 5 at 20 both high 1 long 15;wave 9 at 20 both high 1 long 15;", "plus 10");
        x.comes();
        x.take(0, LEFT, 4, 0);
        judgeBy(x, "plus ride");
        x.comes();
        due("SCORE", x.ride(0, 0, 0), 4);
        judgeBy(x, "plus 10");
        due("SCORE behind another judge", x.ride(0, 0, 0), 4);
        due("TOTAL behind another judge", x.surfer(0, 7), 4);
    }

    private static void unjudged() {
        sentence("the RIDE is UNJUDGED by that (1: beyond, 2: by 0): its SCORE is 0");
        WaveRight x = judged("surfer a at 20 swims 9;surfer b at 20 swims 9;heat 60;wave 5 at 20 both high 1 long 15;"
                + "wave 10 at 20 both high 1 long 15;wave 15 at 20 both high 1 long 15;",
                "plus 40;less 1/[ride-3];plus 9999*9999*[[ride/5]*22]");
        due("would by 0", x.would(0, 0, 20, 3, 0), -2);
        due("would beyond", x.would(0, 0, 20, 5, 0), -1);
        due("would by neither", x.would(0, 0, 20, 1, 0), 40);
        x.comes();
        x.take(0, LEFT, 3, 0);
        x.take(1, RIGHT, 5, 0);
        x.comes();
        due("UNJUDGED by 0", x.ride(0, 0, 6), 2);
        due("UNJUDGED beyond", x.ride(1, 0, 6), 1);
        for (int k = 0; k < 2; k++) {
            due("SCORE of " + k, x.ride(k, 0, 0), 0);
            due("HINDERED by it", x.ride(k, 0, 5), 0);
            due("RIDES that are JUDGED", x.surfer(k, 6), 1);
            due("TOTAL", x.surfer(k, 7), 0);
        }
        due("RIDES of all", x.count(11), 2);
        due("UNJUDGED ones", x.count(12), 2);
        due("the greatest SCORE by it", x.took(0, 1), 0);
        due("SEEN", x.seen(0), -1);
        x.take(0, LEFT, 4, 0);
        x.take(1, RIGHT, 1, 0);
        x.comes();
        due("RIDES of all", x.count(11), 4);
        due("UNJUDGED ones", x.count(12), 2);
        due("SCORE of one that is not", x.ride(0, 1, 0), 39);
        due("UNJUDGED by nothing", x.ride(0, 1, 6), 0);
        due("TOTAL of both", x.surfer(1, 7), 40);
    }

    // ---- who leads ----

    /** A heat of two from one PLACE in which a SCORE is told by the RIDE (tens) and the TURNS (ones). */
    private static WaveRight contest(int[] first, int[] second) {
        StringBuilder text = new StringBuilder(TWO);
        for (int k = 1; k <= 8; k++) {
            text.append("wave ").append(5 * k).append(" at 20 both high 1 long 15;");
        }
        WaveRight x = judged(text.toString(), "plus [ride-1]*10+turns");
        for (int k = 0; k < Math.max(first.length, second.length); k++) {
            x.comes();
            score(x, 0, LEFT, k < first.length ? first[k] : -1);
            score(x, 1, RIGHT, k < second.length ? second[k] : -1);
        }
        x.comes();
        return x;
    }

    private static void score(WaveRight x, int surfer, int way, int score) {
        if (score >= 0) {
            x.take(surfer, way, score / 10 + 1, score % 10);
        }
    }

    private static int[] of(int... scores) {
        return scores;
    }

    /** TOTAL, best and second best SCORE of the first one by those scores. */
    private static void total(int[] scores, int total, int best, int second) {
        WaveRight x = contest(scores, of());
        String told = "by " + Arrays.toString(scores) + ": ";
        due(told + "RIDES", x.surfer(0, 6), scores.length);
        due(told + "TOTAL", x.surfer(0, 7), total);
        due(told + "best SCORE", x.surfer(0, 9), best);
        due(told + "the second best", x.surfer(0, 10), second);
    }

    private static void totals() {
        sentence("TOTAL: the best two SCORES together; 9 best SCORE (0 without), 10 the second best (0 without)");
        total(of(), 0, 0, 0);
        total(of(0), 0, 0, 0);
        total(of(50), 50, 50, 0);
        total(of(50, 30), 80, 50, 30);
        total(of(30, 50), 80, 50, 30);
        total(of(50, 50), 100, 50, 50);
        total(of(50, 30, 20), 80, 50, 30);
        total(of(50, 30, 40), 90, 50, 40);
        total(of(50, 30, 60), 110, 60, 50);
        total(of(50, 30, 50, 30), 100, 50, 50);
        total(of(100, 0, 100), 200, 100, 100);
        total(of(0, 0, 1), 1, 1, 0);
        sentence("of one with one HINDERING or more the best one alone");
        WaveRight x = contest(of(50, 30), of(40, 20));
        x.take(0, LEFT, 6, 9);
        x.take(1, LEFT, 6, 9);
        due("TOTAL ahead of it", x.surfer(1, 7), 60);
        x.comes();
        due("HINDERINGS", x.surfer(1, 5), 1);
        due("TOTAL of one who hindered", x.surfer(1, 7), 40);
        due("best SCORE", x.surfer(1, 9), 40);
        due("the second best, though it does not count", x.surfer(1, 10), 20);
        due("TOTAL of the one who was hindered", x.surfer(0, 7), 109);
        x.take(1, RIGHT, 5, 5);
        x.comes();
        due("TOTAL with a better best", x.surfer(1, 7), 45);
        due("the second best then", x.surfer(1, 10), 40);
    }

    private static void leads(int[] first, int[] second, int who) {
        WaveRight x = contest(first, second);
        String told = Arrays.toString(first) + " against " + Arrays.toString(second) + ": ";
        due(told + "RANK of 0", x.surfer(0, 8), who);
        due(told + "RANK of 1", x.surfer(1, 8), 1 - who);
        due(told + "who leads", x.ranked(0), who);
        due(told + "who is behind", x.ranked(1), 1 - who);
        due(told + "NEED of the one who leads", x.need(who), 0);
    }

    private static void ranks() {
        sentence("RANK: how many have a greater TOTAL, or as great a one and a better best SCORE, or both as great and a lesser number");
        leads(of(), of(), 0);
        leads(of(0), of(0), 0);
        leads(of(), of(0), 0);
        leads(of(), of(1), 1);
        leads(of(50, 30), of(51, 30), 1);
        leads(of(51, 30), of(50, 30), 0);
        leads(of(50, 30), of(60, 20), 1);
        leads(of(60, 20), of(50, 30), 0);
        leads(of(50, 30), of(40, 40), 0);
        leads(of(40, 40), of(50, 30), 1);
        leads(of(50, 30), of(30, 50), 0);
        leads(of(50, 30, 20), of(50, 30, 29), 0);
        leads(of(80), of(50, 30), 0);
        leads(of(50, 30), of(80), 1);
        sentence("The RANK that is told: who has it. NoSuchElementException: there is none such");
        WaveRight x = sea("surfer a at 1 swims 1;surfer b at 1 swims 1;surfer c at 1 swims 1;surfer d at 1 swims 1;"
                + "surfer e at 1 swims 1;");
        for (int k = 0; k < 5; k++) {
            due("ranked(" + k + ") of like ones", x.ranked(k), k);
            due("RANK of " + k, x.surfer(k, 8), k);
        }
        for (int none : new int[] {-1, 5, Integer.MIN_VALUE, Integer.MAX_VALUE}) {
            is("ranked(" + none + ")", () -> x.ranked(none), ELEMENT);
        }
        is("ranked(2) of two", () -> sea(TWO).ranked(2), ELEMENT);
        sentence("RANK of one with one HINDERING");
        WaveRight y = contest(of(30, 20), of(50, 40));
        y.take(0, LEFT, 1, 0);
        y.take(1, LEFT, 1, 0);
        due("RANK ahead of it", y.surfer(1, 8), 0);
        y.comes();
        due("as great a TOTAL and a better best SCORE", y.surfer(1, 8), 0);
        due("TOTAL of the one", y.surfer(0, 7), 50);
        due("TOTAL of the other one", y.surfer(1, 7), 50);
    }

    private static void need(int[] first, int[] second, int who, int due) {
        WaveRight x = contest(first, second);
        due("NEED of " + who + ", " + Arrays.toString(first) + " against " + Arrays.toString(second),
                x.need(who), due);
    }

    private static void needs() {
        sentence("NEED: the least SCORE (0 to 100) in one RIDE more by which one's RANK would be 0, all else as it is");
        need(of(), of(), 0, 0);
        need(of(), of(), 1, 1);
        need(of(50, 30), of(), 0, 0);
        need(of(50, 30), of(), 1, 80);
        need(of(50, 30), of(20), 1, 60);
        need(of(50, 30), of(49), 1, 32);
        need(of(50, 30), of(50), 1, 31);
        need(of(50), of(50, 30), 0, 30);
        need(of(50, 30), of(51), 1, 29);
        need(of(50, 30), of(40), 1, 41);
        need(of(50, 30), of(40, 39), 1, 41);
        need(of(100, 100), of(100), 1, -1);
        need(of(100, 100), of(100, 100), 1, -1);
        need(of(100), of(100, 100), 0, 100);
        need(of(100), of(), 1, -1);
        need(of(), of(100), 0, 100);
        need(of(99), of(), 1, 100);
        need(of(90, 11), of(), 1, -1);
        need(of(90, 10), of(), 1, 100);
        sentence("NEED of one with one HINDERING: the best one alone counts");
        int[][] cases = {{50, 30, 80}, {80, 20, 100}, {90, 11, -1}, {39, 0, 0}, {40, 0, 41}, {39, 1, 0}, {39, 2, 41}};
        for (int[] one : cases) {
            WaveRight x = contest(of(one[0], one[1]), of(40, 40));
            x.take(0, LEFT, 1, 0);
            x.take(1, LEFT, 1, 0);
            x.comes();
            due("NEED against " + one[0] + " and " + one[1], x.need(1), one[2]);
        }
        is("need(2)", () -> sea(TWO).need(2), INDEX);
        is("need(-1)", () -> sea(TWO).need(-1), INDEX);
    }

    public static void main(String[] args) {
        clipped();
        ints();
        byZero();
        truths();
        facts();
        withoutText();
        woulds();
        judgedByTheLatest();
        unjudged();
        totals();
        ranks();
        needs();
        finish();
    }
}
