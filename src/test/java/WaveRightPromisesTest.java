/** Each promise by answers that were reckoned by hand from the document. */
public final class WaveRightPromisesTest extends Due {
    private static final String TWO = "surfer ann at 10 swims 2; surfer bob at 12 swims 3;";
    private static final String FOUR = "surfer ann at 10 swims 2;surfer bob at 12 swims 3;surfer cy at 10 swims 1;"
            + "surfer dee at 14 swims 5;heat 40;";

    private static void seaFault(String text, int at) {
        WaveRight x = sea(TWO);
        write(x, text);
        is("sea of " + text, () -> x.sea() == x.count(1) ? 1 : 0, at == -1 ? 1 : ARGUMENT);
        due("fault of " + text, x.fault(), at);
    }

    private static void judgeFault(String text, int at) {
        WaveRight x = new WaveRight();
        write(x, text);
        if (at != -1) {
            is("judge of " + text, x::judge, ARGUMENT);
        } else {
            x.judge();
        }
        due("fault of " + text, x.fault(), at);
    }

    /** The score of a ride of 3 by 2 turns from place 12, high 4, long 6, peak 10, minute 7. */
    private static void scored(String judge, int due) {
        WaveRight x = judged(TWO + "wave 7 at 10 both high 4 long 6;", judge);
        due(judge, x.would(0, 0, 12, 3, 2), due);
    }

    private static void texts() {
        sentence("1 a new object");
        WaveRight x = new WaveRight();
        due("count(0)", x.count(0), 0);
        due("count(4)", x.count(4), 30);
        due("count(7)", x.count(7), 1);
        due("comes()", x.comes(), -1);
        is("surfer", () -> x.surfer(0, 0), INDEX);
        is("wave", () -> x.wave(0, 0), INDEX);
        is("ranked", () -> x.ranked(0), ELEMENT);
        due("NONE", WaveRight.NONE, -1);

        sentence("2 feed");
        for (int k = 1; k <= 20; k++) {
            due("feed", x.feed(0x70_6c_75_73, -1, 0, 1, 2), 20 * k);
        }
        due("the 21st feed", x.feed(1, 2, 3, 4, 5), -1);
        due("end(401)", x.end(401) ? 1 : 0, 0);
        due("end(400)", x.end(400) ? 1 : 0, 1);
        is("judge of plus and a byte 255", x::judge, ARGUMENT);
        due("fault", x.fault(), 4);
        due("feed behind a judge", x.feed(0, 0, 0, 0, 0), 20);

        sentence("3 end");
        due("end(-1)", x.end(-1) ? 1 : 0, 0);
        due("end(21)", x.end(21) ? 1 : 0, 0);
        due("end(20)", x.end(20) ? 1 : 0, 1);
        due("end(7)", x.end(7) ? 1 : 0, 1);
        due("end(8)", x.end(8) ? 1 : 0, 0);
        due("feed", x.feed(0, 0, 0, 0, 0), 27);
        due("end(8) now", x.end(8) ? 1 : 0, 1);
    }

    private static void seaTexts() {
        sentence("4 sea");
        seaFault("", 0);
        seaFault(" \n\t", 3);
        seaFault(TWO, -1);
        seaFault(TWO + "\n\t ", -1);
        seaFault("surfera at1swims9;surfer b at0swims1;", 0);
        seaFault("surfer a at1swims9;surfer b at40swims1;", -1);
        seaFault("surfer a at 01 swims 09;surfer b at 0 swims 1;", -1);
        seaFault("surfer a at 1 swims 1;surfer a at 2 swims 1;", 29);
        seaFault("surfer abcdef at 1 swims 1;", 27);
        seaFault("surfer abcdefg at 1 swims 1;", 7);
        seaFault("surfer wave at 1 swims 1;", 7);
        seaFault("surfer Ann at 1 swims 1;", 7);
        seaFault("surfer a1 at 1 swims 1;", 8);
        seaFault("surfer a at 1 swims 10;", 20);
        seaFault("surfer a at 1 swims 1", 21);
        seaFault("surfer a at 1 swi", 14);
        seaFault("surfer a at 1 swims 1,", 21);
        seaFault("heat 0;", 5);
        seaFault("heat;", 4);
        seaFault("again 31;", 6);
        seaFault("again 0;again 0;", 8);
        seaFault("heat 5;heat 6;", 7);
        for (String kept : "surfer at swims heat again wave left right both high long".split(" ")) {
            seaFault("surfer " + kept + " at 1 swims 1;", 7);
        }
        seaFault("surfer az at 1 swims 1;surfer zz at 1 swims 1;surfer zz at 1", 53);
        seaFault("surfer plus at 1 swims 1;surfer seas at 1 swims 1;", -1);
        seaFault(TWO + "wave 1 at 1 high 1 long 1;", TWO.length() + 12);
        seaFault(TWO + "wave 1 at high 1 long 1;", TWO.length() + 10);
        seaFault(TWO + "wave 1 at 1 both at 1 long 1;", TWO.length() + 17);
        seaFault(TWO + "wave 5 at 1 both high 1 long 1;wave 5 at 1 left high 9 long 15;", -1);
        seaFault(TWO + "wave 5 at 1 both high 1 long 1;wave 4 at", TWO.length() + 36);
        seaFault(TWO + "wave 100 at", TWO.length() + 5);
        seaFault(TWO + "wave 1 at 1 both high 10", TWO.length() + 22);
        seaFault(TWO + "wave 1 at 1 lefthigh", TWO.length() + 12);
        seaFault(TWO + "surfer c at 1 swims 1;surfer d at 1 swims 1;surfer e at 1 swims 1;surfer f at 1 swims 1;",
                TWO.length() + 66);
        seaFault(TWO + "wave 1 at 1 both high 1 long 1;\r", TWO.length() + 31);
        // a wrong text leaves all but the tape as it is
        WaveRight x = sea(TWO + "wave 2 at 10 both high 1 long 5;");
        due("comes", x.comes(), 0);
        write(x, "surfer");
        is("sea", x::sea, ARGUMENT);
        due("count(6)", x.count(6), 0);
        due("count(1)", x.count(1), 1);
        due("feed", x.feed(0, 0, 0, 0, 0), 20);
        write(x, "surfer x at 1 swims 1;surfer y at 2 swims 2;");
        due("sea", x.sea(), 0);
        due("count(6) of the new heat", x.count(6), -1);
        due("count(2) of the new heat", x.count(2), 0);
        due("name", x.name(1, 0), 'y');
        due("comes without a wave", x.comes(), -1);
        due("the heat is over", x.count(7), 1);

        sentence("6 fault");
        due("fault ahead of any", new WaveRight().fault(), -1);
        due("fault behind a right one", x.fault(), -1);
        is("judge", x::judge, ARGUMENT);
        due("fault of an empty judge", x.fault(), 0);
    }

    private static void judgeTexts() {
        sentence("5 judge");
        judgeFault("plus 1", -1);
        judgeFault("plus 1;", 7);
        judgeFault("plus", 4);
        judgeFault("plu", 0);
        judgeFault("plus 10000", 5);
        judgeFault("plus 9999-0000", -1);
        judgeFault("plus1less2", 5);
        judgeFault("plus1;less2", -1);
        judgeFault("plus 1 if", 9);
        judgeFault("plus 1 if high", 14);
        judgeFault("plus 1 if high > 2 2", 19);
        judgeFault("plus 1 if (high) > 2", 15);
        judgeFault("plus 1 if high > 2 and", 22);
        judgeFault("plus 1 if high > 2 an", 19);
        judgeFault("plus [1", 7);
        judgeFault("plus [1)", 7);
        judgeFault("plus heigh", 5);
        judgeFault("plus (1)", 5);
        judgeFault("plus 1 + * 2", 9);
        judgeFault("plus [[[[[[1]]]]]]", -1);
        judgeFault("plus [[[[[[[1]]]]]]]", 11);
        judgeFault("plus 1 if (((((([1]=1))))))", 16);
        judgeFault("plus 1 if ((((([1]=1)))))", -1);
        judgeFault("plus 1 if " + "not ".repeat(90) + "1=1", -1);
        judgeFault("plus 1;".repeat(9) + "less 1", -1);
        judgeFault("plus 1;".repeat(10) + "less 1", 70);
        judgeFault("plus 1;".repeat(10), 70);
        WaveRight x = judged(TWO, "plus 1;plus 2");
        due("count(13)", x.count(13), 2);
        write(x, "plus 1;plus 2;plus");
        is("judge", x::judge, ARGUMENT);
        due("count(13) as it was", x.count(13), 2);
        write(x, TWO);
        x.sea();
        due("count(13) behind a sea", x.count(13), 2);
    }

    private static void scores() {
        sentence("18 would");
        scored("plus high", 4);
        scored("plus long", 6);
        scored("plus ride", 3);
        scored("plus far", 2);
        scored("plus turns", 2);
        scored("plus minute", 7);
        scored("plus rides", 0);
        scored("plus best", 0);
        scored("less 1", 0);
        scored("plus 101", 100);
        scored("less 5;plus 20;less 3 if far > 1;less 3 if far > 2", 12);
        scored("plus 7 / 2 * 2 + 1 * 3 - 20 / 6", 6);
        scored("plus [0 - 7] / 2 + 10", 7);
        scored("plus 50 - [10 - 3] - 2", 41);
        scored("plus 1 / [far - 2]", -2);
        scored("plus 1 / [far - 2] if far < 2", 0);
        scored("plus 9999 * 9999 * 9999", -1);
        scored("plus 9999 * 9999 * 9999 + 1 / 0", -1);
        scored("plus 1 / 0 + 9999 * 9999 * 9999", -2);
        scored("plus 1 if 1 / 0 > 0; plus 9999 * 9999 * 9999", -2);
        // the greatest int, the least one, and a step behind each
        String most = "[21*9999+4790]*9999+8416";
        String least = "0-[21*9999+4790]*9999-8416-1";
        scored("plus " + most, 100);
        scored("plus " + most + "+1", -1);
        scored("plus " + most + ";less 1", 100);
        scored("plus " + most + ";plus 1", -1);
        scored("plus " + least, 0);
        scored("plus " + least + "-1", -1);
        scored("plus [" + least + "]/[0-1]", -1);
        scored("less " + least, -1);
        scored("plus 3 if not far > 5 and not not ride = 3", 3);
        scored("plus 3 if not (far > 5 or ride = 3)", 0);
        scored("plus 3 if ride = 3 or far > 5 and 1 / 0 = 1", 3);
        scored("plus 3 if (ride = 3 or far > 5) and turns < 3", 3);
        scored("plus 3 if ride = 4 and 1 / 0 = 1 or turns = 2", 3);
        scored("plus 3 if ride < 3", 0);
    }

    private static void wouldByState() {
        WaveRight x = sea(TWO + "again 3;wave 2 at 10 left high 5 long 8;wave 9 at 10 both high 9 long 15;");
        due("would without a judge", x.would(0, 0, 40, 20, 9), 100);
        due("would without a judge", x.would(0, 0, 40, 3, 0), 15);
        write(x, "plus 50 + minute");
        x.judge();
        due("minute", x.would(0, 1, 0, 1, 0), 59);
        x.comes();
        x.comes();
        due("START", x.count(3), 6);
        due("minute by START", x.would(0, 1, 0, 1, 0), 53);
        due("minute of one that went by", x.would(1, 0, 0, 1, 0), 46);
        is("would of no surfer", () -> x.would(2, 9, 41, 0, 0), INDEX);
        is("would of no wave", () -> x.would(0, 2, 41, 0, 0), INDEX);
        is("would from no place", () -> x.would(0, 0, 41, 1, 0), ARGUMENT);
        is("would by no ride", () -> x.would(0, 0, 40, 21, 0), ARGUMENT);
        is("would by no turns", () -> x.would(0, 0, 0, 1, -1), ARGUMENT);
    }

    private static void facts() {
        WaveRight x = sea("heat 7;again 5;" + TWO + "wave 1 at 40 left high 9 long 15;wave 99 at 0 both high 1 long 1;");
        sentence("9 wave");
        int[] first = {1, 40, 1, 9, 15};
        for (int k = 0; k < 5; k++) {
            due("wave(0, " + k + ")", x.wave(0, k), first[k]);
        }
        due("wave(1, 2)", x.wave(1, 2), 3);
        is("wave(2, 9)", () -> x.wave(2, 9), INDEX);
        is("wave(-1, 0)", () -> x.wave(-1, 0), INDEX);
        is("wave(0, 5)", () -> x.wave(0, 5), ELEMENT);
        is("wave(0, -1)", () -> x.wave(0, -1), ELEMENT);

        sentence("11 name");
        due("name", x.name(0, 0), 'a');
        due("name", x.name(0, 2), 'n');
        due("name", x.name(0, 3), -1);
        due("name", x.name(1, 6), -1);
        due("name", x.name(0, -1), -1);
        is("name", () -> x.name(2, 0), INDEX);
        is("name", () -> x.name(-1, 0), INDEX);

        sentence("29 count");
        due("count(4)", x.count(4), 7);
        due("count(5)", x.count(5), 5);
        due("count(13)", x.count(13), -1);
        due("count(15)", x.count(15), -1);
        due("count(-1)", x.count(-1), -1);

        sentence("7 anew");
        is("anew without a sea", () -> new WaveRight().anew(), STATE);
        due("comes", x.comes(), 0);
        due("count(2)", x.count(2), 1);
        due("anew", x.anew(), 2);
        due("count(2)", x.count(2), 0);
        due("count(6)", x.count(6), -1);
    }

    private static void course() {
        sentence("8 comes");
        WaveRight x = sea("heat 7;again 5;" + TWO + "wave 5 at 12 both high 1 long 9;wave 12 at 12 both high 1 long 9;"
                + "wave 22 at 12 both high 1 long 9;wave 30 at 12 both high 1 long 9;");
        due("comes", x.comes(), 0);
        due("START at its bound", x.count(3), 0);
        due("comes", x.comes(), 1);
        due("START", x.count(3), 10);
        due("how often", x.count(10), 2);
        due("take", x.take(0, 0, 3, 0), 7);
        due("comes beyond the end", x.comes(), -1);
        due("over", x.count(7), 1);
        due("comes once more", x.comes(), -1);
        due("START of a heat with a wave taken", x.count(3), 10);
        due("MINUTE stays", x.count(2), 12);
        due("the wave went by", x.took(1, 0), 1);
        due("BACK", x.surfer(0, 4), 15);
        due("not OUT any more", x.surfer(0, 2), 0);
        is("took of one that did not come", () -> x.took(2, 0), ELEMENT);
        is("plan of a heat that is over", () -> x.plan(1, 0), STATE);
        due("reach of one behind the end", x.reach(1, 2, 0), 17);
        due("anew", x.anew(), 2);
        due("START anew", x.count(3) + x.count(10) + x.count(11) + x.count(8), 0);
        WaveRight y = sea("heat 3;again 5;" + TWO + "wave 9 at 12 both high 1 long 9;");
        due("comes", y.comes(), -1);
        due("START stays so", y.count(3), 5);
        due("how often", y.count(10), 1);
        due("MINUTE", y.count(2), 0);
        WaveRight z = sea("heat 9;" + TWO + "wave 9 at 12 both high 1 long 9;wave 9 at 1 both high 1 long 9;"
                + "wave 10 at 12 both high 1 long 9;");
        due("comes", z.comes(), 0);
        due("comes at the last minute", z.comes(), 1);
        due("comes behind it", z.comes(), -1);

        sentence("12 goal");
        WaveRight g = sea(TWO + "wave 2 at 14 both high 1 long 9;wave 3 at 12 both high 1 long 9;"
                + "wave 9 at 12 both high 1 long 9;");
        due("goal", g.goal(0, 15), 10);
        due("goal", g.goal(1, 40), 12);
        due("goal", g.goal(1, 0), 40);
        due("GOAL", g.surfer(1, 3), 0);
        g.comes();
        due("PLACE", g.surfer(0, 0), 14);
        due("PLACE", g.surfer(1, 0), 6);
        due("take", g.take(0, 1, 1, 0), 15);
        due("GOAL on the wave", g.surfer(0, 3), 15);
        due("PLACE on the wave", g.surfer(0, 0), 14);
        g.comes();
        due("PLACE", g.surfer(1, 0), 3);
        is("goal of no surfer", () -> g.goal(2, 41), INDEX);
        is("goal at 41", () -> g.goal(0, 41), ARGUMENT);
        is("goal at -1", () -> g.goal(0, -1), ARGUMENT);
        is("goal of one who is not OUT", () -> g.goal(0, 40), STATE);
        g.comes();
        due("OUT again", g.surfer(0, 2), 1);
        due("GOAL of one who is back", g.surfer(0, 3), 14);
        due("goal", g.goal(0, 0), 14);
        due("no farther than the GOAL", g.surfer(1, 0), 0);
    }

    private static void contest() {
        String wave = " at 12 both high 4 long 8;";
        WaveRight x = sea(FOUR + "wave 2" + wave + "wave 5" + wave + "wave 6" + wave + "wave 20" + wave);
        sentence("15 right");
        is("right without a wave", () -> x.right(0, 1), STATE);
        is("right of one, without a wave", () -> x.right(1, 1), ARGUMENT);
        is("right of no surfer", () -> x.right(0, 4), INDEX);
        is("right of no surfer", () -> x.right(-1, -1), INDEX);
        x.comes();
        due("right", x.right(0, 1), 1);
        due("right of like ones", x.right(3, 0), 0);
        due("right of like ones", x.right(2, 3), 2);

        sentence("14 take");
        is("take by no surfer", () -> x.take(4, 2, 0, 10), INDEX);
        is("way 2", () -> x.take(0, 2, 1, 0), ARGUMENT);
        is("way -1", () -> x.take(0, -1, 1, 0), ARGUMENT);
        is("ride 0", () -> x.take(0, 0, 0, 0), ARGUMENT);
        is("ride 21", () -> x.take(0, 0, 21, 0), ARGUMENT);
        is("turns 10", () -> x.take(0, 0, 1, 10), ARGUMENT);
        is("turns -1", () -> x.take(0, 0, 1, -1), ARGUMENT);
        is("on the other side", () -> x.take(0, 1, 1, 0), STATE);
        is("too far", () -> x.take(0, 0, 7, 0), STATE);
        due("take at the peak", x.take(1, 1, 2, 0), 14);
        is("take twice", () -> x.take(1, 1, 2, 0), STATE);
        due("take", x.take(3, 1, 3, 1), 17);
        due("take", x.take(0, 0, 4, 2), 6);
        due("take", x.take(2, 0, 1, 9), 9);
        due("taken by", x.count(14), 15);
        due("OUT", x.count(9), 0);
        due("BACK on the wave", x.surfer(0, 4), -1);

        sentence("16 hinders");
        due("hinders(0)", x.hinders(0), 0);
        due("hinders(1)", x.hinders(1), 0);
        due("hinders(2)", x.hinders(2), 1);
        due("hinders(3)", x.hinders(3), 2);
        is("hinders(4)", () -> x.hinders(4), INDEX);
        due("nothing is judged yet", x.surfer(3, 5) + x.surfer(3, 6) + x.count(11), 0);
        firstRides(x);
        leaders(x);
        lookingBack(x);
        withPriority(x);
    }

    private static void firstRides(WaveRight x) {
        sentence("26 took");
        is("took of the wave that is there", () -> x.took(0, 0), ELEMENT);
        due("comes", x.comes(), 1);
        int[] took = {15, 16, 0, 2};
        for (int k = 0; k < 4; k++) {
            due("took(0, " + k + ")", x.took(0, k), took[k]);
        }
        is("took(0, 4)", () -> x.took(0, 4), ELEMENT);
        is("took(0, -1)", () -> x.took(0, -1), ELEMENT);
        is("took(4, 9)", () -> x.took(4, 9), INDEX);

        sentence("17 ride");
        int[] ride = {16, 0, 4, 2, 0, 0, 0};
        int[] hindered = {0, 0, 3, 1, 1, 1, 0};
        for (int k = 0; k < 7; k++) {
            due("ride(0, 0, " + k + ")", x.ride(0, 0, k), ride[k]);
            due("ride(3, 0, " + k + ")", x.ride(3, 0, k), hindered[k]);
        }
        is("ride(0, 1, 0)", () -> x.ride(0, 1, 0), ELEMENT);
        is("ride(0, -1, 0)", () -> x.ride(0, -1, 0), ELEMENT);
        is("ride(0, 0, 7)", () -> x.ride(0, 0, 7), ELEMENT);
        is("ride(0, 0, -1)", () -> x.ride(0, 0, -1), ELEMENT);
        is("ride(4, 9, 9)", () -> x.ride(4, 9, 9), INDEX);

        sentence("13 row");
        due("PRIORITY", x.count(8), 1);
        int[] row = {1, 2, 3, 0, -1};
        for (int k = 0; k < 5; k++) {
            due("row by BACK and numbers", x.row(k), row[k]);
        }
        due("row(-1)", x.row(-1), -1);
        due("OUT again", x.count(9), 15);
    }

    private static void leaders(WaveRight x) {
        sentence("10 surfer");
        int[] ann = {10, 2, 1, 10, -1, 0, 1, 16, 0, 16, 0};
        int[] dee = {14, 5, 1, 14, -1, 1, 1, 0, 3, 0, 0};
        for (int k = 0; k < 11; k++) {
            due("surfer(0, " + k + ")", x.surfer(0, k), ann[k]);
            due("surfer(3, " + k + ")", x.surfer(3, k), dee[k]);
        }
        is("surfer(0, 11)", () -> x.surfer(0, 11), ELEMENT);
        is("surfer(0, -1)", () -> x.surfer(0, -1), ELEMENT);
        is("surfer(4, 11)", () -> x.surfer(4, 11), INDEX);

        sentence("19 ranked");
        for (int k = 0; k < 4; k++) {
            due("ranked(" + k + ")", x.ranked(k), k);
        }
        is("ranked(4)", () -> x.ranked(4), ELEMENT);
        is("ranked(-1)", () -> x.ranked(-1), ELEMENT);

        sentence("20 need");
        due("need of the first", x.need(0), 0);
        due("need of two scores", x.need(1), 9);
        due("need of one who hindered", x.need(2), 17);
        is("need(4)", () -> x.need(4), INDEX);
        WaveRight y = judged(TWO + "wave 1 at 10 left high 1 long 9;wave 9 at 10 left high 1 long 9;"
                + "wave 20 at 10 left high 1 long 9;", "plus 100");
        for (int k = 0; k < 2; k++) {
            y.comes();
            y.take(0, 0, 1, 0);
        }
        y.comes();
        due("need of one who cannot lead", y.need(1), -1);
    }

    private static void lookingBack(WaveRight x) {
        sentence("23 seen");
        due("seen(0)", x.seen(0), 8);
        due("seen(1)", x.seen(1), 16);
        due("seen(2)", x.seen(2), -1);
        due("seen(-1)", x.seen(-1), -1);

        sentence("24 worth");
        due("worth(0, 0, 0)", x.worth(0, 0, 0), 16);
        due("worth(0, 0, 6)", x.worth(0, 0, 6), 16);
        due("worth(0, 1, 0)", x.worth(0, 1, 0), 32);
        due("worth(0, 2, 0)", x.worth(0, 2, 0), 64);
        due("worth(0, 1, 1)", x.worth(0, 1, 1), 56);
        due("worth(0, 2, 1)", x.worth(0, 2, 1), 120);
        due("worth(0, 2, 2)", x.worth(0, 2, 2), 120);
        due("worth of one who hindered", x.worth(3, 1, 1), 24);
        is("worth(4, 7, 7)", () -> x.worth(4, 7, 7), INDEX);
        is("worth(0, 7, 0)", () -> x.worth(0, 7, 0), ARGUMENT);
        is("worth(0, -1, 0)", () -> x.worth(0, -1, 0), ARGUMENT);
        is("worth(0, 0, 7)", () -> x.worth(0, 0, 7), ARGUMENT);
        is("worth(0, 0, -1)", () -> x.worth(0, 0, -1), ARGUMENT);

        sentence("25 least");
        due("least(0, 0, 1)", x.least(0, 0, 1), 0);
        due("least(0, 1, 1)", x.least(0, 1, 1), 12);
        due("least(0, 2, 1)", x.least(0, 2, 1), 14);
        due("least(0, 1, 2)", x.least(0, 1, 2), 0);
        is("least(4, 7, 7)", () -> x.least(4, 7, 7), INDEX);
        is("least(0, 1, 0)", () -> x.least(0, 1, 0), ARGUMENT);
        is("least(0, 7, 1)", () -> x.least(0, 7, 1), ARGUMENT);
        is("least(0, 0, 7)", () -> x.least(0, 0, 7), ARGUMENT);
        is("least(0, -1, 1)", () -> x.least(0, -1, 1), ARGUMENT);
        WaveRight y = sea(TWO);
        is("worth with nothing SEEN", () -> y.worth(0, 6, 6), STATE);
        is("worth(0, 7, 6)", () -> y.worth(0, 7, 6), ARGUMENT);
        is("least with nothing SEEN", () -> y.least(0, 6, 6), STATE);
        is("least(0, 6, 0)", () -> y.least(0, 6, 0), ARGUMENT);
    }

    private static void withPriority(WaveRight x) {
        sentence("15 right with PRIORITY");
        due("right", x.right(0, 1), 1);
        due("right", x.right(0, 3), 3);
        due("take", x.take(3, 1, 2, 0), 16);
        due("take", x.take(1, 1, 5, 3), 17);
        due("hinders", x.hinders(3), 2);
        due("hinders", x.hinders(1), 0);
        due("row as long as the wave is there", x.row(0), 1);
        due("best", x.best(0, 0), 6);
        due("best", x.best(0, 1), 0);
        due("best", x.best(0, 2), 24);
        due("comes", x.comes(), 2);
        due("row", x.row(0), 2);
        due("row", x.row(1), 0);
        due("row", x.row(2), -1);
        due("right of two who are not in THE ROW", x.right(1, 3), -1);
        due("right of one who is not", x.right(1, 0), 0);
        due("BACK", x.surfer(1, 4), 8);

        sentence("8 sent in");
        due("HINDERINGS", x.surfer(3, 5), 2);
        due("BACK", x.surfer(3, 4), -1);
        due("RIDES", x.surfer(3, 6), 2);
        is("goal", () -> x.goal(3, 1), STATE);
        is("swim", () -> x.swim(3, 1), STATE);
        is("swim to 41", () -> x.swim(3, 41), ARGUMENT);
        is("plan", () -> x.plan(3, 0), STATE);
        is("plan 3", () -> x.plan(3, 3), ELEMENT);
        is("reach", () -> x.reach(3, 3, 0), STATE);
        is("reach 3", () -> x.reach(3, 3, 3), ELEMENT);
        is("best", () -> x.best(3, 0), STATE);
        is("take", () -> x.take(3, 1, 1, 0), STATE);
        due("comes", x.comes(), 3);
        due("OUT", x.count(9), 7);
        due("row", x.row(2), 1);
        due("row", x.row(3), -1);
        due("TOTAL", x.surfer(1, 7), 28);
        due("best SCORE", x.surfer(1, 9), 20);
        due("second best SCORE", x.surfer(1, 10), 8);
        due("the first", x.ranked(0), 1);
        due("RIDES of all", x.count(11), 6);
        due("UNJUDGED", x.count(12), 0);
    }

    private static void bestRides() {
        sentence("21 best");
        WaveRight x = sea("surfer a at 14 swims 9;surfer b at 11 swims 9;wave 1 at 10 right high 2 long 9;"
                + "wave 9 at 10 both high 2 long 9;");
        is("best without a wave", () -> x.best(0, 0), STATE);
        is("best(0, 3) without a wave", () -> x.best(0, 3), ELEMENT);
        is("best(2, 3)", () -> x.best(2, 3), INDEX);
        x.comes();
        x.take(1, 1, 1, 0);
        due("best of one without RIGHT who meets nobody", x.best(0, 0), 5);
        due("its SCORE", x.best(0, 2), 10);
        x.comes();
        x.take(0, 1, 2, 0);
        due("best ahead of another's path", x.best(1, 0), 2);
        due("its WAY", x.best(1, 1), 1);
        is("best of one on the wave", () -> x.best(0, 0), STATE);
        WaveRight y = judged(TWO + "wave 1 at 10 both high 2 long 9;", "plus 5; plus 1 / [ride - 4]");
        y.comes();
        due("the shortest of several", y.best(0, 0), 5);
        due("left of both", y.best(0, 1), 0);
        due("SCORE", y.best(0, 2), 6);
        write(y, "plus 1 / 0");
        y.judge();
        due("all UNJUDGED", y.best(0, 0), 1);
        due("all UNJUDGED", y.best(0, 2), 0);
        y.take(0, 1, 3, 0);
        due("best of one who would hinder by all", y.best(1, 0), -1);
        due("best of one who would hinder by all", y.best(1, 1), -1);
        due("best of one who would hinder by all", y.best(1, 2), -1);
        y.comes();
        due("UNJUDGED by", y.ride(0, 0, 6), 2);
        due("UNJUDGED ones", y.count(12), 1);
        due("not SEEN", y.seen(0), -1);
        due("RIDES", y.surfer(0, 6), 1);
        due("greatest SCORE", y.took(0, 1), 0);
        due("whose", y.took(0, 2), 0);
        WaveRight z = sea("surfer a at 0 swims 1;surfer b at 40 swims 1;wave 1 at 0 left high 1 long 3;"
                + "wave 50 at 40 right high 1 long 3;");
        z.comes();
        due("a path below 0", z.take(0, 0, 3, 0), -3);
        due("comes behind the end", z.comes(), -1);
        due("nobody took it", z.took(0, 0), 1);
    }

    private static void plans() {
        String waves = "heat 20;wave 2 at 10 right high 5 long 8;wave 6 at 10 both high 6 long 8;"
                + "wave 7 at 10 left high 5 long 8;wave 11 at 10 left high 5 long 8;wave 25 at 10 both high 9 long 9;";
        WaveRight x = sea(TWO + waves);
        sentence("22 plan");
        due("TOTAL", x.plan(0, 0), 88);
        due("first", x.plan(0, 1), 1);
        due("second", x.plan(0, 2), 3);
        is("plan(2, 3)", () -> x.plan(2, 3), INDEX);
        is("plan(0, 3)", () -> x.plan(0, 3), ELEMENT);
        is("plan(0, -1)", () -> x.plan(0, -1), ELEMENT);
        x.comes();
        x.take(0, 1, 8, 0);
        is("plan of one on the wave", () -> x.plan(0, 0), STATE);
        x.comes();
        due("TOTAL of one who will be OUT", x.plan(0, 0), 80);
        due("first", x.plan(0, 1), 2);
        due("none second", x.plan(0, 2), -1);
        x.comes();
        x.comes();
        due("nothing is left", x.plan(0, 0), 40);
        due("nothing is left", x.plan(0, 1), -1);

        sentence("27 swim");
        WaveRight y = sea(TWO + waves);
        due("swim", y.swim(0, 10), 0);
        due("swim", y.swim(0, 13), 2);
        due("swim", y.swim(1, 40), 10);
        is("swim(2, 41)", () -> y.swim(2, 41), INDEX);
        is("swim(0, 41)", () -> y.swim(0, 41), ARGUMENT);
        is("swim(0, -1)", () -> y.swim(0, -1), ARGUMENT);
        y.comes();
        due("swim from the MINUTE that it is", y.swim(0, 9), 3);

        sentence("28 reach");
        due("how many", sea(TWO + waves).reach(0, 0, 0), 5);
        due("the least", sea(TWO + waves).reach(0, 0, 1), 10);
        due("the greatest", sea(TWO + waves).reach(0, 0, 2), 14);
        due("behind the end of the heat", y.reach(0, 4, 0), 17);
        is("reach of the wave that is there", () -> y.reach(0, 0, 0), ELEMENT);
        is("reach(0, 1, 3)", () -> y.reach(0, 1, 3), ELEMENT);
        is("reach(0, 5, 3)", () -> y.reach(0, 5, 3), INDEX);
        is("reach(2, 1, 3)", () -> y.reach(2, 1, 3), INDEX);
        y.take(0, 1, 8, 0);
        is("swim of one on the wave", () -> y.swim(0, 10), STATE);
        is("reach of one on the wave", () -> y.reach(0, 1, 0), STATE);
        is("reach of one on the wave, of one that is there", () -> y.reach(0, 0, 0), ELEMENT);
        y.comes();
        due("swim from BACK on", y.swim(0, 9), 8);
        due("by BACK just there", y.reach(0, 2, 0), 1);
        due("its PLACE", y.reach(0, 2, 1), 10);
        WaveRight z = sea(TWO + "wave 2 at 3 left high 1 long 1;");
        due("none", z.reach(0, 0, 0), 0);
        due("none", z.reach(0, 0, 1), -1);
        due("none", z.reach(0, 0, 2), -1);
        is("reach with nothing to come", () -> sea(TWO).reach(0, 0, 0), INDEX);
    }

    public static void main(String[] args) {
        texts();
        seaTexts();
        judgeTexts();
        scores();
        wouldByState();
        facts();
        course();
        contest();
        bestRides();
        plans();
        finish();
    }
}
