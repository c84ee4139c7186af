/** Promises 13 to 19: what is heard, and tuning. */
final class HeardPromisesTest {
    private static final Due DUE = new Due("HeardPromisesTest");
    private static final String TWO_EARS = "window 10 10; window 20 10; ear 10 20; ear 30 10;";
    private static final String ONE_EAR = "window 10 10; window 20 10; ear 10 20;";

    private HeardPromisesTest() {}

    public static void main(String[] args) {
        heardOfKinds();
        heardRefused();
        loudness();
        loudRefused();
        spread();
        together();
        tunedPlain();
        tunedKinds();
        tunedEdges();
        tunedBounds();
        tunedRefused();
        clash();
        leftOut();
        clashAlone();
        DUE.end();
    }

    private static void heardOfKinds() {
        TownPlayers x = Due.town("window 10 10; window 20 10; window 10 10; window 10 10; window 10 10; window 10 20; ear 10 20;"
                + "mill 20 20; player 0 0 50; player 1 1 50; player 2 2 90; player 3 3 50; player 5 4 50; player 4 5 50;"
                + "offset 0 5; offset 3 - 19; offset 5 1;");
        // PLAIN; EARLY; ECHOED and its echo (20 paces to the mill, 10 from it); BYEYE; TWO at its own and at window 0.
        int[] times = {35, 40, 30, 90, 20, 1, 31};
        DUE.is("13 how many", x.heard(0, 0, -1), times.length);
        for (int i = 0; i < times.length; i++) {
            DUE.is("13 heard(0, 0, " + i + ")", x.heard(0, 0, i), times[i]);
            DUE.is("13 heard(0, 9999, " + i + ")", x.heard(0, 9999, i), 9999 + times[i]);
        }
        DUE.is("13 no more", x.heard(0, 0, times.length), -100000);
        DUE.is("13 by far no more", x.heard(0, 0, Integer.MAX_VALUE), -100000);
        DUE.is("13 that is no refusal", x.status(0), 0);
        x.put(2, 2);
        DUE.is("13 wind", x.heard(0, 0, 0), 15);
        DUE.is("13 no wind for an echo", x.heard(0, 0, 3), 90);
        TownPlayers one = Due.town("window 10 10; ear 10 20; player 4 0 50;");
        DUE.is("13 TWO at the one window there is", one.heard(0, 0, -1), 2);
        DUE.is("13 twice the same", one.heard(0, 0, 1), 30);
        TownPlayers six = Due.town("window 0 0; window 1 0; window 2 0; window 3 0; window 4 0; window 5 0; ear 0 0;"
                + "player 4 0 99; player 4 1 99; player 4 2 99; player 4 3 99; player 4 4 99; player 4 5 99;");
        DUE.is("13 twelve at most", six.heard(0, 0, -1), 12);
        for (int i = 0; i < 12; i++) DUE.is("13 six of TWO: heard(0, 5, " + i + ")", six.heard(0, 5, i), 5 + 3 * ((i + 1) / 2 % 6));
    }

    private static void heardRefused() {
        TownPlayers x = Due.town(ONE_EAR + "player 0 0 50;");
        int[][] bad = {{-1, 0, 0}, {1, 0, 0}, {0, -1, 0}, {0, 10000, 0}, {0, 0, -2}, {1, 0, 99}};
        for (int[] c : bad) {
            DUE.is("13 heard(" + c[0] + ", " + c[1] + ", " + c[2] + ")", x.heard(c[0], c[1], c[2]), -200000);
        }
        DUE.is("13 status(0)", x.status(0), 6);
        DUE.is("13 before a note's minute", x.offset(0, -500) + x.heard(0, 0, 0), -470);
    }

    private static void loudness() {
        TownPlayers x = Due.town("window 10 10; window 20 10; window 10 12; ear 10 20; mill 10 15;"
                + "player 0 0 11; player 4 1 21; player 2 2 17;");
        // 11 less 10; TWO: 21 less 20, 21 less 8; ECHOED: 17 less 8, and 8 less 3 less 5 is not heard.
        int[] loud = {1, 1, 13, 9};
        DUE.is("14 how many", x.heard(0, 0, -1), loud.length);
        for (int i = 0; i < loud.length; i++) DUE.is("14 loud(0, " + i + ")", x.loud(0, i), loud[i]);
        DUE.is("14 no more", x.loud(0, 4), -5);
        TownPlayers y = Due.town("window 10 10; window 20 10; window 10 12; ear 10 20; mill 10 15;"
                + "player 0 0 10; player 4 1 20; player 2 2 19;");
        // What is not heard has no number: 10 less 10, and 20 less 20; the echo is 9 less 8.
        int[] left = {12, 11, 1};
        for (int i = 0; i < left.length; i++) DUE.is("14 loud(0, " + i + ") of what is left", y.loud(0, i), left[i]);
        DUE.is("14 no more of it", y.loud(0, 3), -5);
        DUE.is("14 the time goes with it", y.heard(0, 0, 0), 24);
        TownPlayers z = Due.town("window 10 10; ear 10 20; mill 10 10; player 2 0 10;");
        DUE.is("14 nothing", z.heard(0, 0, -1), 0);
        TownPlayers echo = Due.town("window 10 10; ear 10 10; mill 10 10; player 2 0 1;");
        DUE.is("14 half of 1 is not heard", echo.heard(0, 0, -1), 1);
        TownPlayers edge = Due.town("window 0 9; ear 0 9; mill 0 0; player 2 0 99;");
        DUE.is("14 a mill at 0, 0 is one", edge.loud(0, 1), 31);
    }

    private static void loudRefused() {
        TownPlayers x = Due.town(ONE_EAR + "player 0 0 50;");
        int[][] bad = {{-1, 0}, {1, 0}, {0, -1}, {0, Integer.MIN_VALUE}};
        for (int[] c : bad) DUE.is("14 loud(" + c[0] + ", " + c[1] + ")", x.loud(c[0], c[1]), -10);
        DUE.is("14 status(0)", x.status(0), 4);
        DUE.is("14 none so far", x.loud(0, 1), -5);
        DUE.is("14 that is no refusal", x.status(0), 4);
    }

    private static void spread() {
        TownPlayers x = Due.town(TWO_EARS);
        DUE.is("15 nobody", x.spread(0), 0);
        x.player(0, 0, 50);
        x.offset(0, 100);
        DUE.is("15 one", x.spread(0), 0);
        x.player(1, 1, 50);
        DUE.is("15 two at ear 0", x.spread(0), 90);
        DUE.is("15 two at ear 1", x.spread(1), 150);
        DUE.is("15 spread(2)", x.spread(2), TownPlayers.BAD);
        DUE.is("15 spread(-1)", x.spread(-1), TownPlayers.BAD);
        DUE.is("15 status(0)", x.status(0), 2);
        TownPlayers y = Due.town("window 0 0; window 99 99; ear 0 0; player 0 0 50; player 0 1 50; offset 1 500;");
        DUE.is("15 one of two is not heard", y.spread(0), 0);
    }

    private static void together() {
        TownPlayers x = Due.town(TWO_EARS + "player 0 0 50; player 0 1 50; offset 0 5;");
        // Ear 0: 35 and 60; ear 1: 65 and 30.
        DUE.is("16 together(34)", x.together(34), 0);
        DUE.is("16 together(35)", x.together(35), 1);
        DUE.is("16 together(25)", x.together(25), 0);
        DUE.is("16 together(999)", x.together(999), 1);
        DUE.is("16 together(-1)", x.together(-1), TownPlayers.BAD);
        DUE.is("16 together(1000)", x.together(1000), TownPlayers.BAD);
        DUE.is("16 status(0)", x.status(0), 2);
        x.ear(90, 90);
        DUE.is("16 a third ear at which nobody is heard", x.together(35), 1);
        DUE.is("16 three ears", Due.town("window 0 0; window 9 0; ear 5 0; ear 4 0; ear 0 0; player 0 0 50; player 0 1 50;").together(26), 0);
        DUE.is("16 no ears", Due.town("window 1 1; window 9 9; player 0 0 9; player 0 1 9;").together(0), 1);
    }

    private static void tuned(String town, int n, int... offsets) {
        TownPlayers x = Due.town(town);
        long was = x.digest();
        String call = "17 of '" + town + "' tuned(" + n + ", ";
        DUE.is(call + "NONE)", x.tuned(n, TownPlayers.NONE), offsets.length == 0 ? 0 : 1);
        for (int p = 0; p < x.count(2); p++) {
            DUE.is(call + p + ")", x.tuned(n, p), offsets.length == 0 ? -1000 : offsets[p]);
        }
        DUE.is("17 nothing changes", x.digest(), was);
        DUE.is("17 no refusal", x.status(0), 0);
    }

    private static void tunedPlain() {
        String two = "player 0 0 50; player 0 1 50; offset 0 77;";
        tuned(ONE_EAR + two, 0, -470, -500);
        tuned(ONE_EAR + two, 10, -480, -500);
        tuned(ONE_EAR + two, 30, -500, -500);
        tuned(TWO_EARS + two, 29);
        tuned(TWO_EARS + two, 30, -500, -500);
        tuned("window 1 1; window 9 9;" + two, 0, -500, -500);
        // Ear 0 asks for 90 later less 40, ear 1 for 30 later less 40 at least and 40 more at most: 50 to 70.
        tuned("window 10 10; window 40 10; ear 10 10; ear 20 10; player 0 0 50; player 0 1 50;", 40, -450, -500);
    }

    private static void tunedKinds() {
        tuned(ONE_EAR + "player 1 0 50; player 0 1 50;", 0, -450, -500);
        tuned(ONE_EAR + "player 0 0 50; player 1 1 50;", 0, -490, -500);
        tuned(ONE_EAR + "player 3 0 50; player 0 1 50;", 0, -479, -500);
        tuned("window 10 10; window 21 10; ear 10 20; player 3 0 50; player 0 1 50;", 0, -469, -493);
        tuned("window 10 10; window 21 10; ear 10 20; player 3 0 50; player 3 1 50;", 2);
        tuned("window 10 10; window 21 10; ear 10 20; player 3 0 50; player 3 1 50;", 3, -479, -500);
        tuned(ONE_EAR + "player 3 0 50; player 5 1 50; offset 1 90;", 0, -500, -500);
        tuned(ONE_EAR + "player 4 0 50;", 29);
        tuned(ONE_EAR + "player 4 0 50;", 30, -500);
        tuned(ONE_EAR + "mill 20 20; player 2 0 90;", 59);
        tuned(ONE_EAR + "mill 20 20; player 2 0 90;", 60, -500);
        tuned("window 0 0; window 99 99; ear 0 0; player 0 0 50; player 3 1 50;", 0, -500, -500);
    }

    private static void tunedEdges() {
        // Player 1's sound takes 810 parts, 882 and 873 more than player 0's.
        String far = "window 0 0; window 90 0; window 99 0; ear 0 0; slow 9;";
        tuned(far + "player 0 0 99; player 0 1 99;", 0, 310, -500);
        String farther = "window 49 49; window 0 0; ear 49 49; slow 9;";
        tuned(farther + "player 0 0 99; player 0 1 99;", 0, 382, -500);
        String most = "window 49 48; window 0 0; ear 49 48; slow 9; player 3 0 99; player 0 1 99;";
        tuned(most, 0, 380, -493);
        // BYEYE cuts toward 0: 441 more, LATE -50; 504 more, LATE 10; 495 more, LATE 0.
        tuned("window 49 0; window 0 0; ear 49 0; slow 9; player 3 0 99; player 0 1 99;", 0, -59, -491);
        tuned("window 49 7; window 0 0; ear 49 7; slow 9; player 3 0 99; player 0 1 99;", 0, 10, -494);
        tuned("window 49 6; window 0 0; ear 49 6; slow 9; player 3 0 99; player 0 1 99;", 0, -9, -495);
    }

    private static void tunedBounds() {
        // Player 1's sound takes 9 * 91 and 2 * 91 by WIND more: 1001 parts.
        String far = "window 99 0; window 8 0; ear 99 0; slow 9;";
        TownPlayers x = Due.town(far + "player 0 0 99; player 0 1 99;");
        x.put(1, -2);
        DUE.is("17 1001 apart by 0", x.tuned(0, TownPlayers.NONE), 0);
        DUE.is("17 1001 apart by 1", x.tuned(1, 0), 500);
        DUE.is("17 1001 apart by 1, the other", x.tuned(1, 1), -500);
        DUE.is("18 1001 apart by 0", x.clash(0), 3);
        x = Due.town(far + "player 1 0 99; player 0 1 99;");
        x.put(1, -2);
        DUE.is("17 EARLY one by 20", x.tuned(20, 0), -1000);
        DUE.is("17 EARLY one by 21", x.tuned(21, 0), 500);
        x = Due.town(far + "player 0 0 99; player 1 1 99;");
        x.put(1, -2);
        DUE.is("17 the other EARLY by 0", x.tuned(0, 0), 481);
        x = Due.town(far + "player 3 0 99; player 0 1 99;");
        x.put(1, -2);
        DUE.is("17 BYEYE one by 1", x.tuned(1, 0), 500);
        DUE.is("17 BYEYE one by 0", x.tuned(0, 0), -1000);
        DUE.is("17 BYEYE one by 11", x.tuned(11, 0), 490);
        DUE.is("17 another n of the same town", x.tuned(1, 0), 500);
        TownPlayers two = Due.town(ONE_EAR + "player 4 0 50;");
        DUE.is("17 one of TWO by 29", two.tuned(29, 0), -1000);
        DUE.is("17 then by 30", two.tuned(30, 0), -500);
    }

    private static void tunedRefused() {
        TownPlayers x = Due.town(ONE_EAR + "player 0 0 50;");
        int[][] bad = {{-1, 0}, {1000, 0}, {0, 1}, {0, -2}, {1000, -1}};
        for (int[] c : bad) DUE.is("17 tuned(" + c[0] + ", " + c[1] + ")", x.tuned(c[0], c[1]), -2000);
        DUE.is("17 status(0)", x.status(0), 5);
        DUE.is("17 tuned(999, 0)", x.tuned(999, 0), -500);
        DUE.is("17 nobody", new TownPlayers().tuned(0, TownPlayers.NONE), 1);
    }

    private static void clash() {
        TownPlayers x = Due.town(TWO_EARS + "player 0 0 50; player 0 1 50;");
        DUE.is("18 clash(29)", x.clash(29), 3);
        DUE.is("18 clash(30)", x.clash(30), TownPlayers.NONE);
        DUE.is("18 clash(-1)", x.clash(-1), TownPlayers.BAD);
        DUE.is("18 clash(1000)", x.clash(1000), TownPlayers.BAD);
        DUE.is("18 status(0): NONE is no refusal", x.status(0), 2);
        DUE.is("18 nobody", new TownPlayers().clash(0), TownPlayers.NONE);
        // Each of players 1 and 2 clashes with 3 and 4 (not with one another): the least bits.
        TownPlayers y = Due.town("window 0 0; window 10 10; window 10 10; window 20 10; window 20 10; ear 10 20; ear 30 10;"
                + "player 5 0 50; player 0 1 50; player 0 2 50; player 0 3 50; player 0 4 50;");
        DUE.is("18 of like ones the least", y.clash(29), 2 + 8);
        DUE.is("19 of like ones the least", y.leftOut(29), 2 + 4);
        // BYEYE at 0 and at 33 can meet by 3 at the nearest; all PLAIN ones can with each.
        TownPlayers z = Due.town("window 10 10; window 10 10; window 21 10; ear 10 20; player 0 0 50; player 3 1 50; player 3 2 50;");
        DUE.is("18 clash(2) of two BYEYE", z.clash(2), 6);
        DUE.is("19 leftOut(2) of two BYEYE", z.leftOut(2), 2);
    }

    private static void leftOut() {
        TownPlayers x = Due.town(TWO_EARS + "player 0 0 50; player 0 1 50;");
        DUE.is("19 leftOut(29)", x.leftOut(29), 1);
        DUE.is("19 leftOut(30)", x.leftOut(30), 0);
        DUE.is("19 leftOut(-1)", x.leftOut(-1), TownPlayers.BAD);
        DUE.is("19 leftOut(1000)", x.leftOut(1000), TownPlayers.BAD);
        DUE.is("19 status(0)", x.status(0), 2);
        DUE.is("19 nobody", new TownPlayers().leftOut(0), 0);
        // Player 2 clashes with both others, who are at one place: it alone is fewer, though not the least.
        TownPlayers y = Due.town("window 10 10; window 10 10; window 20 10; ear 10 20; ear 30 10;"
                + "player 0 0 50; player 0 1 50; player 0 2 50;");
        DUE.is("19 the fewest", y.leftOut(29), 4);
        DUE.is("18 then two clash", y.clash(29), 5);
    }

    private static void clashAlone() {
        TownPlayers x = Due.town(ONE_EAR + "player 0 0 50; player 4 1 50;");
        DUE.is("18 one clashes with itself", x.clash(29), 2);
        DUE.is("19 it is left out", x.leftOut(29), 2);
        TownPlayers y = Due.town("window 10 10; window 20 10; window 30 10; ear 10 20; player 4 0 50; player 4 1 50; player 0 2 50;");
        DUE.is("18 two that do: the least", y.clash(29), 1);
        DUE.is("19 both are left out", y.leftOut(29), 3);
    }
}
