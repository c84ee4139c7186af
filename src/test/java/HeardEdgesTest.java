/** Promises 13 to 19, each sentence that names a boundary by itself; what is refused is in RefusedTest. */
final class HeardEdgesTest {
    private static final Due DUE = new Due("HeardEdgesTest");
    private static final int NONE = TownPlayers.NONE;
    private static final String SIX_WINDOWS = "window 0 0;window 1 0;window 2 0;window 3 0;window 4 0;window 5 0;";
    private static final String SIX_OF_TWO = "player 4 0 99;player 4 1 99;player 4 2 99;player 4 3 99;player 4 4 99;player 4 5 99;";

    private HeardEdgesTest() {}

    public static void main(String[] args) {
        howManyAndWhen();
        minutesAtTheirEdges();
        loudToNought();
        echoHalved();
        echoWithoutWind();
        twoAtTheNextWindow();
        twoPastTheLastWindow();
        asleep();
        inOrder();
        spreadOfFewerThanTwo();
        spreadOfOnePlayerTwice();
        togetherAtItsEdges();
        togetherAtEachEar();
        tunedWithinOffsets();
        tunedOfByEye();
        tunedInPlaceOfOffsets();
        tunedLeastInTurn();
        clashOrTuned();
        clashFewestAndLeast();
        leftOutFewestAndLeast();
        leftOutAll();
        DUE.end();
    }

    private static void notes(String what, TownPlayers x, int ear, int... whenAndLoud) {
        int many = whenAndLoud.length / 2;
        DUE.is(what + ": how many", x.heard(ear, 0, NONE), many);
        for (int i = 0; i < many; i++) {
            DUE.is(what + ": 13 when " + i, x.heard(ear, 1000, i), 1000 + whenAndLoud[2 * i]);
            DUE.is(what + ": 14 how loud " + i, x.loud(ear, i), whenAndLoud[2 * i + 1]);
        }
        DUE.is(what + ": 13 not so many", x.heard(ear, 0, many), -100000);
        DUE.is(what + ": 14 not so many", x.loud(ear, many), -5);
        DUE.is(what + ": 13 by far not so many", x.heard(ear, 0, Integer.MAX_VALUE), -100000);
        DUE.is(what + ": 14 by far not so many", x.loud(ear, Integer.MAX_VALUE), -5);
    }

    // ---- 13, 14

    /** "how many (i = NONE), when the i-th is. -100000: there are not so many." "-5: there are not so many." */
    private static void howManyAndWhen() {
        notes("nobody", Due.town("ear 5 5;"), 0);
        notes("one, at one place", Due.town("window 5 5;ear 5 5;player 0 0 99;"), 0, 0, 99);
        notes("one, not heard", Due.town("window 5 5;ear 5 9;player 0 0 4;"), 0);
        TownPlayers x = Due.town(SIX_WINDOWS + SIX_OF_TWO + "ear 0 0;");
        notes("twelve", x, 0, 0, 99, 3, 98, 3, 98, 6, 97, 6, 97, 9, 96, 9, 96, 12, 95, 12, 95, 15, 94, 15, 94, 0, 99);
    }

    /** "a note of t (0 .. 9999)": begins "at t and LATE", also below 0 and beyond 9999. */
    private static void minutesAtTheirEdges() {
        TownPlayers x = Due.town("window 5 5;ear 5 5;player 1 0 99;offset 0 - 500;");
        DUE.is("13 t 0", x.heard(0, 0, 0), -520);
        DUE.is("13 t 9999", x.heard(0, 9999, 0), 9479);
        x = Due.town("window 0 0;ear 99 99;ear 99 0;player 0 0 99;offset 0 500;slow 9;");
        x.put(1, -2);
        DUE.is("13 99 paces away is not heard of 99", x.heard(1, 0, NONE), 0);
        x = Due.town("window 0 0;ear 98 0;player 0 0 99;offset 0 500;slow 9;");
        x.put(1, -2);
        DUE.is("13 the latest there is", x.heard(0, 9999, 0), 9999 + 500 + 882 + 196);
        DUE.is("14 as low as there is", x.loud(0, 0), 1);
    }

    /** "LOUD less PACES, 0 at least (and then it is not heard)". */
    private static void loudToNought() {
        for (int loud : new int[] {1, 2, 50, 98, 99}) {
            for (int paces = Math.max(0, loud - 2); paces <= Math.min(99, loud + 1); paces++) {
                TownPlayers x = Due.town("window 0 0;ear " + paces + " 0;ear 0 " + paces + ";player 0 0 " + loud + ";");
                for (int e = 0; e < 2; e++) {
                    if (loud > paces) notes(loud + " at " + paces, x, e, 3 * paces, loud - paces);
                    else notes(loud + " at " + paces, x, e);
                }
            }
        }
        TownPlayers x = Due.town("window 9 9;ear 4 3;ear 14 15;ear 4 15;player 0 0 12;");
        notes("both ways count, without sign", x, 0, 33, 1);
        notes("both ways count, the other sign", x, 1, 33, 1);
        notes("both ways count, unlike signs", x, 2, 33, 1);
    }

    /** "of an ECHO: half of LOUD, cut, less all of them". */
    private static void echoHalved() {
        String town = "window 0 0;ear 0 0;mill 1 0;player 2 0 ";
        notes("half of 4 less 2", Due.town(town + "4;"), 0, 0, 4);
        notes("half of 5 less 2", Due.town(town + "5;"), 0, 0, 5);
        notes("half of 6 less 2", Due.town(town + "6;"), 0, 0, 6, 6, 1);
        notes("half of 7, cut, less 2", Due.town(town + "7;"), 0, 0, 7, 6, 1);
        notes("half of 99, cut, less 2", Due.town(town + "99;"), 0, 0, 99, 6, 47);
        String here = "window 0 0;ear 0 0;mill 0 0;player 2 0 ";
        notes("half of 1 is none", Due.town(here + "1;"), 0, 0, 1);
        notes("half of 2", Due.town(here + "2;"), 0, 0, 2, 0, 1);
        notes("half of 3", Due.town(here + "3;"), 0, 0, 3, 0, 1);
        notes("all paces: to the mill and from it", Due.town("window 10 10;ear 20 10;mill 15 14;player 2 0 99;"), 0, 30, 89, 54, 31);
    }

    /** "takes the PACES to THE MILL and from it to the EAR, both times SLOW (no WIND)". */
    private static void echoWithoutWind() {
        TownPlayers x = Due.town("window 10 10;ear 20 10;mill 15 14;slow 2;player 2 0 99;offset 0 - 3;");
        for (int wind = -2; wind <= 2; wind++) {
            x.put(1, wind);
            x.put(2, wind);
            notes("WIND " + wind, x, 0, -3 + Math.max(0, 20 - 10 * wind), 89, -3 + 36, 31);
        }
    }

    /** "4 TWO: plays at the next WINDOW, too (the number 1 more; the last one: 0)"; "with no ECHO". */
    private static void twoAtTheNextWindow() {
        String town = "window 0 0;window 10 0;window 30 0;ear 0 0;mill 0 0;";
        notes("TWO at 0", Due.town(town + "player 4 0 50;"), 0, 0, 50, 30, 40);
        notes("TWO at 1", Due.town(town + "player 4 1 50;"), 0, 30, 40, 90, 20);
        notes("TWO at 2, the last", Due.town(town + "player 4 2 50;"), 0, 90, 20, 0, 50);
        notes("only the next is heard", Due.town(town + "player 4 2 30;"), 0, 0, 30);
        notes("only its own is heard", Due.town(town + "player 4 0 10;"), 0, 0, 10);
        TownPlayers x = Due.town(town + "player 4 2 50;player 0 0 50;");
        notes("the next has a PLAYER of its own", x, 0, 90, 20, 0, 50, 0, 50);
        x.window(40, 0);
        notes("it is the last no more", x, 0, 90, 20, 120, 10, 0, 50);
        x.offset(0, 5);
        notes("LATE at both", x, 0, 95, 20, 125, 10, 0, 50);
    }

    private static void twoPastTheLastWindow() {
        notes("the one window is the last", Due.town("window 3 0;ear 0 0;player 4 0 50;"), 0, 9, 47, 9, 47);
        notes("the sixth is the last", Due.town(SIX_WINDOWS + "ear 0 0;player 4 5 50;"), 0, 15, 45, 0, 50);
        notes("the fifth is not", Due.town(SIX_WINDOWS + "ear 0 0;player 4 4 50;"), 0, 12, 46, 15, 45);
    }

    /** "5 ASLEEP: is not heard". */
    private static void asleep() {
        TownPlayers x = Due.town("window 0 0;window 0 0;ear 0 0;mill 0 0;player 5 0 99;");
        notes("ASLEEP alone", x, 0);
        DUE.is("15 ASLEEP alone", x.spread(0), 0);
        x.player(0, 1, 9);
        x.offset(0, 500);
        notes("ASLEEP and one awake", x, 0, 0, 9);
        DUE.is("15 ASLEEP and one awake", x.spread(0), 0);
        DUE.is("16 ASLEEP and one awake", x.together(0), 1);
    }

    /** "of each PLAYER in its order, as often as it is heard". */
    private static void inOrder() {
        TownPlayers x = Due.town("window 0 0;window 10 0;window 20 0;ear 0 0;mill 0 5;player 0 2 99;player 2 1 98;player 4 0 97;");
        notes("by the PLAYERS' order, not the WINDOWS'", x, 0, 60, 79, 30, 88, 60, 29, 0, 97, 30, 87);
    }

    // ---- 15, 16

    /** "(0: fewer than two)". */
    private static void spreadOfFewerThanTwo() {
        TownPlayers x = Due.town("window 0 0;window 0 9;ear 0 0;ear 99 99;");
        DUE.is("15 of none", x.spread(0), 0);
        x.player(0, 1, 50);
        x.offset(0, 400);
        DUE.is("15 of one", x.spread(0), 0);
        x.player(0, 0, 50);
        DUE.is("15 of two", x.spread(0), 427);
        DUE.is("15 of two who are not heard there", x.spread(1), 0);
        x.offset(0, -27);
        DUE.is("15 of two at one time", x.spread(0), 0);
        x.offset(0, -28);
        DUE.is("15 the first is ahead by one", x.spread(0), 1);
        x.offset(0, -26);
        DUE.is("15 the first is behind by one", x.spread(0), 1);
    }

    private static void spreadOfOnePlayerTwice() {
        DUE.is("15 TWO", Due.town("window 0 0;window 0 9;ear 0 0;player 4 0 50;").spread(0), 27);
        DUE.is("15 a note and its ECHO", Due.town("window 0 0;ear 0 0;mill 0 9;player 2 0 50;").spread(0), 54);
        DUE.is("15 its ECHO is not heard", Due.town("window 0 0;ear 0 0;mill 0 9;player 2 0 37;").spread(0), 0);
        DUE.is("15 its ECHO is just heard", Due.town("window 0 0;ear 0 0;mill 0 9;player 2 0 38;").spread(0), 54);
    }

    /** "TOGETHER by n PARTS (0 .. 999): SPREAD is n at most". */
    private static void togetherAtItsEdges() {
        TownPlayers x = Due.town("window 0 0;window 0 0;ear 0 0;player 0 0 50;player 0 1 50;");
        DUE.is("16 0 by 0", x.together(0), 1);
        x.offset(1, 1);
        DUE.is("16 1 by 0", x.together(0), 0);
        DUE.is("16 1 by 1", x.together(1), 1);
        x.offset(0, -500);
        x.offset(1, 499);
        DUE.is("16 999 by 998", x.together(998), 0);
        DUE.is("16 999 by 999", x.together(999), 1);
        x.offset(1, 500);
        DUE.is("16 1000 by 999", x.together(999), 0);
    }

    /** "at each EAR". */
    private static void togetherAtEachEar() {
        String windows = "window 0 0;window 30 0;player 0 0 99;player 0 1 99;";
        String[] ears = {"ear 0 0;", "ear 15 0;", "ear 15 9;"};
        for (int at = 0; at < 3; at++) {
            StringBuilder town = new StringBuilder(windows);
            for (int e = 0; e < 3; e++) town.append(ears[(e - at + 3) % 3]);
            TownPlayers x = Due.town(town.toString());
            DUE.is("16 ear " + at + " alone is at 90", x.spread(at), 90);
            DUE.is("16 ear " + at + " is at 90: by 89", x.together(89), 0);
            DUE.is("16 ear " + at + " is at 90: by 90", x.together(90), 1);
        }
        DUE.is("16 no EARS", Due.town(windows + "offset 0 500;").together(0), 1);
    }

    // ---- 17

    private static void tuned(String town, int n, int... offsets) {
        TownPlayers x = Due.town(town);
        String what = "17 of '" + town + "' by " + n;
        DUE.is(what, x.tuned(n, NONE), offsets.length == 0 ? 0 : 1);
        for (int p = 0; p < x.count(2); p++) DUE.is(what + " of " + p, x.tuned(n, p), offsets.length == 0 ? -1000 : offsets[p]);
    }

    /** "OFFSETS (-500 .. 500)": as far apart as they can be, and one part more. */
    private static void tunedWithinOffsets() {
        String far = "window 98 0;window 0 0;ear 98 0;slow 9;";
        // 882 parts and 2 * 98 by WIND: 1078.
        for (int n : new int[] {77, 78, 79, 998, 999}) {
            TownPlayers x = Due.town(far + "player 0 0 99;player 0 1 99;");
            x.put(1, -2);
            DUE.is("17 1078 apart by " + n, x.tuned(n, NONE), n < 78 ? 0 : 1);
            DUE.is("17 1078 apart by " + n + " of 0", x.tuned(n, 0), n < 78 ? -1000 : 578 - n);
            DUE.is("17 1078 apart by " + n + " of 1", x.tuned(n, 1), n < 78 ? -1000 : -500);
            DUE.is("18 1078 apart by " + n, x.clash(n), n < 78 ? 3 : NONE);
            DUE.is("19 1078 apart by " + n, x.leftOut(n), n < 78 ? 1 : 0);
        }
        // EARLY's LATE goes from -520 to 480.
        for (int n : new int[] {97, 98, 99}) {
            TownPlayers x = Due.town(far + "player 1 0 99;player 0 1 99;");
            x.put(1, -2);
            DUE.is("17 the near one EARLY by " + n, x.tuned(n, 0), n < 98 ? -1000 : 598 - n);
        }
        for (int n : new int[] {57, 58, 59}) {
            TownPlayers x = Due.town(far + "player 0 0 99;player 1 1 99;");
            x.put(1, -2);
            DUE.is("17 the far one EARLY by " + n, x.tuned(n, 0), n < 58 ? -1000 : 558 - n);
        }
        tuned("window 0 0;window 0 0;ear 0 0;player 1 0 9;player 0 1 9;", 0, -480, -500);
        tuned("window 0 0;window 0 0;ear 0 0;player 1 0 9;player 0 1 9;", 19, -499, -500);
        tuned("window 0 0;window 0 0;ear 0 0;player 1 0 9;player 0 1 9;", 20, -500, -500);
    }

    /** "BYEYE: OFFSET is cut to tens toward 0": the least OFFSET of a LATE. */
    private static void tunedOfByEye() {
        String two = "player 3 0 99;player 0 1 99;";
        // The near one is to be later by what the far one's way takes more: 450, 495, 504, 540, 1, 10, 11 parts.
        tuned("window 50 0;window 0 0;ear 50 0;slow 9;" + two, 0, -59, -500);
        tuned("window 55 0;window 0 0;ear 55 0;slow 9;" + two, 0, -9, -495);
        tuned("window 56 0;window 0 0;ear 56 0;slow 9;" + two, 0, 10, -494);
        tuned("window 60 0;window 0 0;ear 60 0;slow 9;" + two, 0, 40, -500);
        tuned("window 1 0;window 0 0;ear 1 0;slow 1;" + two, 0, -499, -491);
        tuned("window 1 0;window 0 0;ear 1 0;slow 1;" + two, 1, -500, -500);
        tuned("window 10 0;window 0 0;ear 10 0;slow 1;" + two, 0, -499, -500);
        tuned("window 10 0;window 0 0;ear 10 0;slow 1;player 3 0 99;player 3 1 99;", 0, -499, -500);
        tuned("window 11 0;window 0 0;ear 11 0;slow 1;player 3 0 99;player 3 1 99;", 0);
        tuned("window 11 0;window 0 0;ear 11 0;slow 1;player 3 0 99;player 3 1 99;", 1, -499, -500);
        tuned("window 0 0;ear 0 0;player 3 0 99;", 0, -500);
    }

    /** "in place of those there are". */
    private static void tunedInPlaceOfOffsets() {
        TownPlayers x = Due.town("window 0 0;window 0 9;ear 0 0;player 0 0 50;player 0 1 50;");
        for (int v : new int[] {-500, 0, 333, 500}) {
            x.offset(0, v);
            x.offset(1, -v);
            DUE.is("17 whatever they are", x.tuned(0, 0), -473);
            DUE.is("17 whatever they are", x.tuned(0, 1), -500);
            DUE.is("17 they stay", x.late(0, 0), v);
        }
        DUE.is("17 nobody", new TownPlayers().tuned(0, NONE), 1);
        tuned("window 0 0;window 9 9;player 0 0 50;player 0 1 50;", 0, -500, -500);
        tuned("window 0 0;window 0 9;ear 0 0;player 5 0 50;player 0 1 50;", 0, -500, -500);
    }

    /** "the least one of PLAYER 0, then of PLAYER 1 with that, and so on". */
    private static void tunedLeastInTurn() {
        String ears = "window 0 0;window 0 4;window 0 10;ear 0 0;";
        tuned(ears + "player 0 0 50;player 0 1 50;player 0 2 50;", 0, -470, -482, -500);
        tuned(ears + "player 0 2 50;player 0 0 50;player 0 1 50;", 0, -500, -470, -482);
        tuned(ears + "player 0 0 50;player 0 1 50;player 0 2 50;", 12, -482, -494, -500);
        tuned(ears + "player 0 0 50;player 0 1 50;player 0 2 50;", 29, -499, -500, -500);
        tuned(ears + "player 0 0 50;player 0 1 50;player 0 2 50;", 30, -500, -500, -500);
    }

    // ---- 18, 19

    /** "NONE: TUNED." "0": nobody is to be left out. */
    private static void clashOrTuned() {
        TownPlayers x = Due.town("window 0 0;window 30 0;ear 0 0;ear 30 0;player 0 0 99;player 0 1 99;");
        DUE.is("18 by 89", x.clash(89), 3);
        DUE.is("18 by 90", x.clash(90), NONE);
        DUE.is("19 by 89", x.leftOut(89), 1);
        DUE.is("19 by 90", x.leftOut(90), 0);
        DUE.is("18 nobody", new TownPlayers().clash(0), NONE);
        DUE.is("19 nobody", new TownPlayers().leftOut(0), 0);
        TownPlayers y = Due.town("window 0 0;window 30 0;ear 0 0;ear 30 0;player 5 0 99;player 0 1 99;");
        DUE.is("18 one ASLEEP", y.clash(0), NONE);
        DUE.is("19 one ASLEEP", y.leftOut(0), 0);
    }

    /** "the fewest PLAYERS (as bits, the least of like ones) who alone can not". */
    private static void clashFewestAndLeast() {
        String town = "window 0 0;window 30 0;window 0 0;window 30 0;window 0 30;window 0 30;ear 0 0;ear 30 0;";
        // Who is at one place can; 0 and 30 are 180 apart by both ears, and so are 30 0 and 0 30.
        TownPlayers x = Due.town(town + "player 0 0 99;player 0 2 99;player 0 1 99;player 0 3 99;");
        DUE.is("18 of four pairs the least", x.clash(89), 1 + 4);
        DUE.is("19 of two pairs the least", x.leftOut(89), 1 + 2);
        // A single one who can not is fewer than a lesser pair.
        TownPlayers y = Due.town(town + "player 0 0 99;player 0 1 99;player 4 2 99;");
        DUE.is("18 one is fewer than two", y.clash(89), 4);
        DUE.is("19 it and one of the two", y.leftOut(89), 1 + 4);
        // Each EAR hears two of three: 0 is to be 30 later than 1, 1 33 later than 2, 2 33 later than 0. Each pair can.
        TownPlayers z = Due.town("window 0 0;window 20 0;window 10 17;ear 5 0;ear 17 5;ear 7 12;"
                + "player 0 0 20;player 0 1 20;player 0 2 20;");
        DUE.is("18 three, of whom each two can", z.clash(31), 7);
        DUE.is("19 one of the three", z.leftOut(31), 1);
        DUE.is("17 one of the three", z.tuned(31, 0), -1000);
        DUE.is("18 three, by as much as they need", z.clash(32), NONE);
        DUE.is("19 three, by as much as they need", z.leftOut(32), 0);
        // 0 is ahead of 1 by 2 at most, and 1 is one behind 2 at least, which is one behind 0 at least.
        int[] least = {-500, -498, -499};
        for (int p = 0; p < 3; p++) DUE.is("17 three of whom each waits for one: " + p, z.tuned(32, p), least[p]);
    }

    private static void leftOutFewestAndLeast() {
        String town = "window 0 0;window 0 0;window 30 0;window 30 0;window 30 0;ear 0 0;ear 30 0;";
        TownPlayers x = Due.town(town + "player 0 0 99;player 0 1 99;player 0 2 99;player 0 3 99;player 0 4 99;");
        DUE.is("19 two rather than three", x.leftOut(89), 1 + 2);
        TownPlayers y = Due.town(town + "player 0 2 99;player 0 3 99;player 0 0 99;player 0 4 99;player 0 1 99;");
        DUE.is("19 the two, though not the least bits", y.leftOut(89), 4 + 16);
        TownPlayers z = Due.town(town + "player 0 2 99;player 5 3 99;player 0 0 99;player 5 4 99;player 5 1 99;");
        DUE.is("19 of two awake the least", z.leftOut(89), 1);
    }

    /** Each alone can not: all are to be asleep. */
    private static void leftOutAll() {
        TownPlayers x = Due.town("window 0 0;window 9 0;window 0 0;window 9 0;window 0 0;window 9 0;ear 0 0;" + SIX_OF_TWO);
        DUE.is("18 one alone can not", x.clash(26), 1);
        DUE.is("19 all six", x.leftOut(26), 63);
        DUE.is("19 none of them", x.leftOut(27), 0);
        TownPlayers one = Due.town("window 0 0;window 9 0;ear 0 0;player 4 0 99;");
        DUE.is("18 the one there is", one.clash(26), 1);
        DUE.is("19 the one there is", one.leftOut(26), 1);
    }
}
