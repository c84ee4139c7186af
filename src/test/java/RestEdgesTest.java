import java.util.Arrays;

/** Promises 20 to 33, each sentence that names a boundary by itself; what is refused is in RefusedTest. */
final class RestEdgesTest {
    private static final Due DUE = new Due("RestEdgesTest");
    private static final int NONE = TownPlayers.NONE;
    // From window to window it is 30 parts.
    private static final String LINE = "window 0 0;window 10 0;window 20 0;window 30 0;window 40 0;window 50 0;";
    private static final String BAND = "player 0 0 50;player 0 1 50;player 0 2 50;player 0 3 50;player 0 4 50;player 0 5 50;";

    private RestEdgesTest() {}

    public static void main(String[] args) {
        followItselfAtFirst();
        roundOfNobody();
        roundAllAtOnce();
        roundHeldAtItsEdges();
        roundToItself();
        roundOfKinds();
        undoNone();
        undoEight();
        undoOffsetsAlone();
        settlesAtOnce();
        settlesBehindTwenty();
        slipAtItsEdges();
        slipHeld();
        slipDiesOut();
        bestOfOne();
        bestGreatestLeast();
        bestNotBelowNought();
        bestThenSpread();
        bestFirstOfLikeOnes();
        bestNone();
        wrongBySome();
        wrongFromNowhere();
        nextEarOfNoPair();
        nextEarMostAndLeast();
        drawnFromNoneToFive();
        imagesKeepAll();
        imagesAreApart();
        statusByReason();
        countsAtTheirEdges();
        digestOfAll();
        DUE.end();
    }

    private static long sum(int... all) {
        long h = 677;
        for (int v : all) h = 31 * h + v;
        return h;
    }

    private static void offsets(String what, TownPlayers x, int... due) {
        for (int p = 0; p < due.length; p++) DUE.is(what + ": OFFSET of " + p, x.late(p, 0), due[p]);
    }

    // ---- 20 to 22

    /** "each PLAYER listens to one (or itself, at first)": "whom it did". */
    private static void followItselfAtFirst() {
        TownPlayers x = Due.town(LINE + BAND);
        for (int p = 0; p < 6; p++) DUE.is("20 itself at first: " + p, x.follow(p, 5 - p), p);
        for (int p = 0; p < 6; p++) DUE.is("20 the other end: " + p, x.follow(p, p), 5 - p);
        for (int p = 0; p < 6; p++) DUE.is("20 itself again: " + p, x.follow(p, p), p);
        TownPlayers y = new TownPlayers();
        for (int p = 0; p < 6; p++) {
            y.window(p, p);
            y.player(5, p, 9);
            DUE.is("20 itself at first, as it comes: " + p, y.follow(p, 0), p);
        }
    }

    private static void roundOfNobody() {
        TownPlayers x = new TownPlayers();
        DUE.is("21 nobody", x.round(), 0);
        DUE.is("32 it is a ROUND", x.count(3), 1);
        DUE.is("22 it may be undone", x.undo(), 1);
        DUE.is("22 no more", x.undo(), TownPlayers.NO);
    }

    /** "(all at once)"; "how many OFFSETS became others": 0 to 6. */
    private static void roundAllAtOnce() {
        TownPlayers x = Due.town(LINE + BAND);
        for (int p = 0; p < 6; p++) x.offset(p, 100 * p - 250);
        for (int many = 0; many <= 6; many++) {
            for (int p = 0; p < 6; p++) {
                x.offset(p, 60 * p);
                x.follow(p, p < many ? (p + 1) % 6 : p);
            }
            DUE.is("21 " + many + " become others", x.round(), many);
            for (int p = 0; p < 6; p++) {
                int due = p >= many ? 60 * p : p == 5 ? 150 : 60 * p + 90;
                DUE.is("21 of " + many + ": OFFSET of " + p, x.late(p, 0), due);
            }
        }
        TownPlayers y = Due.town("window 10 20;window 7 25;player 0 0 50;player 0 1 50;slow 9;");
        y.follow(0, 1);
        DUE.is("21 PACES by x and by y times SLOW", y.round(), 1);
        offsets("21 8 paces", y, 72, 0);
    }

    /** "beyond -500, 500 it is held there". */
    private static void roundHeldAtItsEdges() {
        int[][] high = {{469, 499}, {470, 500}, {471, 500}, {500, 500}};
        for (int[] h : high) {
            TownPlayers x = Due.town(LINE + BAND);
            x.follow(0, 1);
            x.offset(1, h[0]);
            DUE.is("21 " + h[0] + " and 30", x.round(), 1);
            offsets("21 " + h[0] + " and 30", x, h[1], h[0]);
        }
        int[][] low = {{-469, -499}, {-470, -500}, {-471, -500}, {-500, -500}};
        for (int[] l : low) {
            TownPlayers x = Due.town(LINE + BAND);
            x.follow(0, 1);
            x.offset(1, l[0]);
            x.put(3, 60);
            DUE.is("21 " + l[0] + " and 30 less 60", x.round(), 1);
            offsets("21 " + l[0] + " and 30 less 60", x, l[1], l[0]);
        }
        TownPlayers x = Due.town("window 0 0;window 99 99;player 0 0 9;player 0 1 9;slow 9;offset 1 500;");
        x.follow(0, 1);
        x.round();
        offsets("21 at most 2282", x, 500, 500);
        x.put(3, 999);
        x.put(0, 1);
        x.offset(1, -500);
        x.round();
        offsets("21 at least -1301", x, -500, -500);
    }

    /** "(It stays, if it listens to itself)": also with CATCH. */
    private static void roundToItself() {
        TownPlayers x = Due.town(LINE + BAND + "offset 0 500;offset 1 - 500;offset 2 7;");
        x.put(3, 999);
        DUE.is("21 all listen to themselves", x.round(), 0);
        offsets("21 they stay", x, 500, -500, 7, 0, 0, 0);
        DUE.is("23 that is settled", x.settles(), 0);
    }

    /**
     * "a PLAYER whose sound it hears at its own WINDOW after PACES between both WINDOWS times SLOW": whatever both KINDS,
     * "its OFFSET becomes that one's OFFSET" (not its LATE), with no WIND, and TWO is its own WINDOW alone.
     */
    private static void roundOfKinds() {
        for (int kind = 0; kind <= 5; kind++) {
            for (int other = 0; other <= 5; other++) {
                TownPlayers x = Due.town(LINE + "mill 90 90;player " + kind + " 0 9;player " + other + " 1 1;player 0 2 9;offset 1 37;");
                x.put(1, 2);
                x.put(2, -2);
                x.put(3, 4);
                x.follow(0, 1);
                x.follow(2, 0);
                String what = kind + " who listens to " + other;
                DUE.is("23 " + what, x.settles(), 2);
                DUE.is("24 " + what, x.slip(1, 3, 2), 7);
                DUE.is("21 " + what, x.round(), 2);
                offsets("21 " + what, x, 63, 37, 56);
                DUE.is("21 " + what + ", once more", x.round(), 1);
                offsets("21 " + what + ", once more", x, 63, 37, 119);
            }
        }
    }

    /** "NO: none may be." */
    private static void undoNone() {
        TownPlayers x = Due.town(LINE + BAND);
        DUE.is("22 none at first", x.undo(), TownPlayers.NO);
        x.follow(0, 1);
        x.round();
        DUE.is("22 one", x.undo(), 1);
        DUE.is("22 one only", x.undo(), TownPlayers.NO);
        offsets("22 it stays", x, 0);
        x.round();
        x.offset(0, 400);
        x.round();
        DUE.is("22 the second", x.undo(), 1);
        offsets("22 ahead of the second", x, 400);
        DUE.is("22 the first", x.undo(), 1);
        offsets("22 ahead of the first", x, 0);
        DUE.is("22 no third", x.undo(), TownPlayers.NO);
        DUE.is("22 three times none", x.status(1), 3);
    }

    /** "(8 at most)". */
    private static void undoEight() {
        for (int rounds = 7; rounds <= 17; rounds++) {
            TownPlayers x = Due.town(LINE + BAND);
            x.follow(0, 1);
            for (int k = 0; k < rounds; k++) {
                x.offset(1, k);
                x.round();
            }
            DUE.is("32 of " + rounds + " may be undone", x.count(3), Math.min(8, rounds));
            for (int k = rounds; k > Math.max(0, rounds - 8); k--) {
                DUE.is("22 ROUND " + k + " of " + rounds, x.undo(), 1);
                offsets("22 ahead of ROUND " + k, x, k == 1 ? 0 : 28 + k, k - 1);
                DUE.is("32 and then", x.count(3), k - 1 - Math.max(0, rounds - 8));
            }
            DUE.is("22 no more of " + rounds, x.undo(), TownPlayers.NO);
        }
        TownPlayers x = Due.town(LINE + BAND);
        for (int k = 0; k < 8; k++) x.round();
        x.undo();
        x.round();
        DUE.is("32 one undone, one done", x.count(3), 8);
    }

    /** "OFFSETS (nothing else)". */
    private static void undoOffsetsAlone() {
        TownPlayers x = Due.town(LINE + BAND);
        x.follow(0, 1);
        x.round();
        x.window(1, 1);
        x.ear(2, 3);
        x.mill(4, 5);
        int[] puts = {9, 2, -2, 50};
        for (int what = 0; what < 4; what++) x.put(what, puts[what]);
        x.follow(0, 2);
        x.follow(5, 4);
        x.offset(4, 44);
        DUE.is("22 undo()", x.undo(), 1);
        DUE.is("22 all else stays", x.digest(), sum(6, 1, 6, 0, (LINE + BAND).length(), 0, 0, 10, 0, 20, 0, 30, 0, 40, 0, 50, 0,
                2, 3, 4, 5, 9, 2, -2, 50, 0, 0, 50, 0, 2, 0, 1, 50, 0, 1, 0, 2, 50, 0, 2, 0, 3, 50, 0, 3, 0, 4, 50, 0, 4, 0, 5, 50, 0, 4));
        DUE.is("22 STATUS: the window alone", x.status(2), 1);
    }

    // ---- 23, 24

    /** "the first ROUND (0 .. 20) behind which none would change any more": 0 to 5 down a row of six. */
    private static void settlesAtOnce() {
        TownPlayers x = Due.town(LINE + BAND);
        long was = x.digest();
        for (int p = 0; p < 6; p++) {
            DUE.is("23 a row of " + p + " who follow", x.settles(), p);
            if (p < 5) x.follow(p + 1, p);
        }
        x.follow(0, 0);
        for (int p = 1; p < 6; p++) x.follow(p, p);
        DUE.is("23 nothing changes", x.digest(), was);
        DUE.is("23 no ROUND is done", x.count(3), 0);
        x.follow(1, 0);
        x.offset(1, 30);
        DUE.is("23 as it would become", x.settles(), 0);
        x.offset(1, 31);
        DUE.is("23 not quite", x.settles(), 1);
    }

    /** "(0 .. 20)"; "NONE". */
    private static void settlesBehindTwenty() {
        // Both go 30 a ROUND to 500; the last one is the 19th, the 20th, the 21st.
        int[][] froms = {{-70, 19}, {-71, 20}, {-100, 20}, {-101, NONE}, {-500, NONE}};
        for (int[] f : froms) {
            TownPlayers x = Due.town(LINE + BAND);
            x.follow(0, 1);
            x.follow(1, 0);
            x.offset(0, f[0]);
            x.offset(1, f[0]);
            DUE.is("23 from " + f[0], x.settles(), f[1]);
            x.put(3, 60);
            x.offset(0, -f[0]);
            x.offset(1, -f[0]);
            DUE.is("23 down from " + -f[0], x.settles(), f[1]);
        }
        TownPlayers x = Due.town(LINE + BAND);
        x.follow(0, 1);
        x.follow(1, 0);
        x.put(3, 30);
        DUE.is("23 CATCH takes it all", x.settles(), 0);
        x.offset(1, -1);
        DUE.is("23 to and fro without end", x.settles(), NONE);
        DUE.is("23 NONE is no refusal", x.status(0) + x.status(1) + x.status(2), 0);
    }

    /** "behind r ROUNDS (0 .. 20)"; "a slip of d (-99 .. 99)". */
    private static void slipAtItsEdges() {
        TownPlayers x = Due.town(LINE + BAND);
        for (int p = 0; p < 6; p++) {
            for (int d = -99; d <= 99; d += 198) {
                DUE.is("24 slip(" + p + ", " + d + ", 0)", x.slip(p, d, 0), 1 << p);
                DUE.is("24 slip(" + p + ", " + d + ", 20), who listens to itself", x.slip(p, d, 20), 1 << p);
            }
            DUE.is("24 slip(" + p + ", 0, 0)", x.slip(p, 0, 0), 0);
            DUE.is("24 slip(" + p + ", 1, 0)", x.slip(p, 1, 0), 1 << p);
            DUE.is("24 slip(" + p + ", -1, 0)", x.slip(p, -1, 0), 1 << p);
        }
        x.follow(0, 1);
        x.follow(1, 0);
        x.put(3, 30);
        DUE.is("24 to and fro: 20", x.slip(0, 99, 20), 1);
        DUE.is("24 to and fro: 19", x.slip(0, 99, 19), 2);
        for (int p = 1; p < 6; p++) x.follow(p, p - 1);
        x.follow(0, 0);
        for (int r = 0; r <= 20; r++) DUE.is("24 down a row: " + r, x.slip(0, -7, r), (2 << Math.min(r, 5)) - 1);
    }

    /** "(held within -500, 500, too)". */
    private static void slipHeld() {
        TownPlayers x = Due.town(LINE + BAND + "offset 0 500;offset 1 - 500;offset 2 401;offset 3 - 401;offset 4 499;offset 5 - 499;");
        DUE.is("24 500 and 1", x.slip(0, 1, 0), 0);
        DUE.is("24 500 and 99", x.slip(0, 99, 20), 0);
        DUE.is("24 500 less 1", x.slip(0, -1, 0), 1);
        DUE.is("24 -500 less 1", x.slip(1, -1, 0), 0);
        DUE.is("24 -500 less 99", x.slip(1, -99, 20), 0);
        DUE.is("24 -500 and 1", x.slip(1, 1, 0), 2);
        DUE.is("24 401 and 99", x.slip(2, 99, 0), 4);
        DUE.is("24 -401 less 99", x.slip(3, -99, 0), 8);
        DUE.is("24 499 and 99", x.slip(4, 99, 0), 16);
        DUE.is("24 -499 less 99", x.slip(5, -99, 0), 32);
        // The slip is held at 500 ahead of the ROUND: 30 on less 45 is 485, not what 520 would give.
        TownPlayers y = Due.town(LINE + BAND + "offset 0 500;");
        y.follow(1, 0);
        y.put(3, 45);
        DUE.is("24 held ahead of the ROUNDS", y.slip(0, 20, 1), 0);
        DUE.is("24 not held", y.slip(0, -20, 1), 3);
    }

    /** "whose OFFSETS are not as they would be": none, once all are held at the same. */
    private static void slipDiesOut() {
        TownPlayers x = Due.town(LINE + BAND + "offset 0 440;offset 1 440;");
        x.follow(0, 1);
        x.follow(1, 0);
        DUE.is("24 470, 460", x.slip(0, -10, 1), 2);
        DUE.is("24 500, 490", x.slip(0, -10, 2), 1);
        DUE.is("24 both are held at 500", x.slip(0, -10, 3), 0);
        offsets("24 nothing changes", x, 440, 440);
        DUE.is("24 no ROUND is done", x.count(3), 0);
    }

    // ---- 25

    private static void best(String town, int... due) {
        TownPlayers x = Due.town(town);
        long was = x.digest();
        for (int p = 0; p < due.length; p++) DUE.is("25 of '" + town + "' best(" + p + ")", x.best(p), due[p]);
        DUE.is("25 nothing changes", x.digest(), was);
    }

    private static void bestOfOne() {
        best("window 5 5;ear 5 5;player 0 0 9;", 0);
        best("window 99 99;ear 0 0;player 0 0 1;", 0);
        best("window 99 99;ear 0 0;player 5 0 1;", 0);
        best(LINE + "ear 50 0;player 0 0 99;", 5);
        best(LINE + "ear 0 0;player 0 5 99;", 0);
        best(LINE + "ear 49 0;player 0 0 99;", 5);
        best(LINE + "ear 0 0;ear 50 0;player 0 0 99;", 2);
        best(LINE + "ear 10 0;ear 50 0;ear 20 0;player 0 0 99;", 3);
        // 99 is more than 98, as the greatest there is.
        best("window 1 0;window 0 0;ear 0 0;player 0 0 99;", 1);
    }

    /** "the greatest least loudness (of all PLAYERS but ASLEEP ones at all EARS, of what comes from the WINDOW itself)". */
    private static void bestGreatestLeast() {
        // 0 at window 0: 20 and 50 less 10; 1 at window 0: 50 and 20 less 10.
        best("window 0 0;window 10 0;ear 0 0;player 0 0 50;player 0 1 20;", 1, 0);
        // All EARS: window 1 is 5 from each, window 0 is 0 from one and 10 from the other.
        best("window 0 0;window 5 0;ear 0 0;ear 10 0;player 0 0 50;", 1);
        // The ECHO and the second WINDOW are not asked.
        best("window 0 0;window 10 0;ear 0 0;mill 40 40;player 2 0 20;player 0 1 50;", 0, 1);
        best("window 0 0;window 10 0;window 90 0;ear 0 0;player 4 0 20;", 0);
        // One ASLEEP is not asked, however soft.
        best("window 0 0;window 10 0;ear 0 0;player 5 0 1;player 0 1 20;", 1, 0);
        best("window 1 0;window 0 0;ear 0 0;player 0 0 99;player 5 1 1;", 1, 0);
        // LATE does not matter, as loudness goes ahead of SPREAD.
        best("window 0 0;window 10 0;ear 0 0;player 0 0 20;player 0 1 50;offset 0 100;", 0, 1);
    }

    /** "0 at least": ways in which one is not heard are alike, however far off it is. */
    private static void bestNotBelowNought() {
        best("window 90 0;window 80 0;window 70 0;ear 0 0;player 0 2 20;", 0);
        best("window 90 0;window 20 0;window 19 0;ear 0 0;player 0 0 20;", 2);
        best("window 90 0;window 20 0;window 21 0;ear 0 0;player 0 2 20;", 0);
        best("window 90 0;window 80 0;ear 0 0;player 0 1 5;player 0 0 9;", 0, 1);
    }

    /** "then the least SPREAD of all EARS together". */
    private static void bestThenSpread() {
        String square = "window 0 0;window 10 0;ear 0 0;player 0 0 50;player 0 1 50;";
        best(square + "offset 0 29;", 0, 1);
        best(square + "offset 1 1;", 1, 0);
        best(square + "offset 1 30;", 1, 0);
        best(square + "offset 0 1;", 0, 1);
        // One not heard has no SPREAD: each way is as loud (0).
        best("window 0 0;window 60 0;ear 0 0;player 0 0 50;player 0 1 50;offset 1 500;", 0, 1);
        // The LATE of a KIND counts: EARLY at the far window is 20 nearer in time.
        best("window 0 0;window 10 0;ear 0 0;player 1 0 50;player 0 1 50;", 1, 0);
        best("window 0 0;window 10 0;ear 0 0;player 3 0 50;player 0 1 50;offset 0 9;", 0, 1);
        best("window 0 0;window 10 0;ear 0 0;player 3 0 50;player 0 1 50;offset 1 - 9;", 0, 1);
        // The ECHO counts for the SPREAD: 25 PACES by window 0, 15 by window 1, for the same loudness.
        best("window 5 0;window 0 5;ear 0 0;mill 0 10;player 2 0 90;", 1);
    }

    /** "of like ones the first (WINDOW of PLAYER 0, 1, ..)". */
    private static void bestFirstOfLikeOnes() {
        String here = "window 5 5;window 5 5;window 5 5;window 5 5;window 5 5;window 5 5;ear 5 5;";
        best(here + "player 0 5 9;player 0 4 9;player 0 3 9;player 0 2 9;player 0 1 9;player 0 0 9;", 0, 1, 2, 3, 4, 5);
        best(here + "player 0 5 9;player 0 4 9;player 0 3 9;", 0, 1, 2);
        best(here + "player 5 5 9;player 5 4 9;player 5 3 9;", 0, 1, 2);
        best("window 0 9;window 9 0;ear 0 0;player 0 1 20;player 0 0 20;", 0, 1);
        // By (0, 1) and (1, 0) alike, by (0, 2) worse: PLAYER 0's WINDOW counts first.
        best("window 0 5;window 5 0;window 0 6;ear 0 0;player 0 2 20;player 0 1 20;", 0, 1);
        // Six at six: the softest at the ear, of the rest the first way.
        best("window 1 0;window 2 0;window 3 0;window 4 0;window 5 0;window 0 0;ear 0 0;"
                + "player 0 0 9;player 0 1 50;player 0 2 50;player 0 3 50;player 0 4 50;player 0 5 50;", 5, 0, 1, 2, 3, 4);
    }

    /** "NONE: there are fewer WINDOWS than PLAYERS, no EARS." As each PLAYER has a WINDOW of its own, fewer can't be. */
    private static void bestNone() {
        TownPlayers x = Due.town(LINE + BAND);
        for (int p = 0; p < 6; p++) DUE.is("25 no EARS: " + p, x.best(p), NONE);
        DUE.is("25 that is no refusal", x.status(0) + x.status(1) + x.status(2), 0);
        x.ear(0, 0);
        for (int p = 0; p < 6; p++) DUE.is("25 as many WINDOWS as PLAYERS: " + p, x.best(p), p);
        TownPlayers y = Due.town("window 5 5;player 5 0 9;");
        DUE.is("25 no EARS, one ASLEEP", y.best(0), NONE);
    }

    // ---- 26 to 28

    /** "(one time, whatever, of its beginning; no ECHOES)"; "at told times (or at some of them)". */
    private static void wrongBySome() {
        // SOUND to the EARS: 0, 30, 60 of window 0; 30, 0, 30 of window 1; 60, 30, 0 of window 2.
        TownPlayers x = Due.town("window 0 0;window 10 0;window 20 0;ear 0 0;ear 10 0;ear 20 0;mill 0 0;player 2 0 99;");
        int[][] due = {{1, 0, 9999, 9999, 7}, {2, 9999, 0, 9999, 7}, {4, 9999, 9999, 0, 7}, {1, 9999, 0, 0, 7},
            {3, 0, 30, 9999, 1}, {3, 30, 0, 0, 6}, {3, 9999, 9969, 0, 6}, {3, 9969, 9999, 0, 1}, {3, 31, 0, 0, NONE}, {3, 29, 0, 0, NONE},
            {5, 0, 7, 60, 1}, {5, 500, 7, 500, 2}, {5, 60, 7, 0, 4}, {5, 60, 7, 1, NONE},
            {6, 7, 0, 30, 3}, {6, 7, 30, 0, 4}, {6, 7, 9999, 9969, 4}, {6, 7, 5, 5, NONE},
            {7, 100, 130, 160, 1}, {7, 130, 100, 130, 2}, {7, 160, 130, 100, 4}, {7, 160, 130, 101, NONE}, {7, 161, 130, 100, NONE}};
        for (int[] d : due) {
            DUE.is("26 wrong(" + d[0] + ", " + d[1] + ", " + d[2] + ", " + d[3] + ")", x.wrong(d[0], d[1], d[2], d[3]), d[4]);
        }
        DUE.is("26 no refusals", x.status(0), 0);
        TownPlayers six = Due.town(LINE + "ear 0 0;ear 0 0;");
        DUE.is("26 all six", six.wrong(3, 5, 5, 0), 63);
        DUE.is("26 none of six", six.wrong(3, 5, 6, 0), NONE);
    }

    private static void wrongFromNowhere() {
        DUE.is("26 NONE: no WINDOWS", Due.town("ear 5 5;").wrong(1, 0, 0, 0), NONE);
        TownPlayers x = Due.town("window 0 0;ear 10 0;ear 0 0;slow 1;");
        x.put(1, 2);
        // The wind brings the SOUND down to 0, and no further.
        DUE.is("26 SOUND is 0 at least", x.wrong(3, 100, 100, 0), 1);
        DUE.is("26 not less", x.wrong(3, 90, 100, 0), NONE);
        x.put(1, -2);
        DUE.is("26 against the wind", x.wrong(3, 130, 100, 0), 1);
        DUE.is("26 not as without it", x.wrong(3, 110, 100, 0), NONE);
    }

    /** "NONE: none parts any two." */
    private static void nextEarOfNoPair() {
        TownPlayers x = Due.town(LINE + "ear 0 0;ear 50 0;ear 25 0;");
        DUE.is("27 none", x.nextEar(0), NONE);
        for (int w = 0; w < 6; w++) DUE.is("27 one: " + w, x.nextEar(1 << w), NONE);
        for (int w = 0; w < 5; w++) DUE.is("27 two: " + w, x.nextEar(3 << w), 1);
        DUE.is("27 all six", x.nextEar(63), 1);
        DUE.is("27 no EARS", Due.town(LINE).nextEar(63), NONE);
        DUE.is("27 EAR 0 alone", Due.town(LINE + "ear 9 9;").nextEar(63), NONE);
        DUE.is("27 all at one place", Due.town(LINE + "ear 9 9;ear 9 9;ear 9 9;").nextEar(63), NONE);
        DUE.is("27 WINDOWS at one place", Due.town("window 5 5;window 5 5;ear 0 0;ear 9 0;ear 0 9;").nextEar(3), NONE);
        DUE.is("27 NONE is no refusal", x.status(0), 0);
        DUE.is("27 no WINDOWS", Due.town("ear 0 0;ear 9 9;").nextEar(0), NONE);
    }

    /** "the EAR by which most two of these are parted, of like ones the least". */
    private static void nextEarMostAndLeast() {
        // 25, 0 parts 0, 1, 2 from each other, and the others as EAR 50, 0 does not; 50, 0 parts all.
        TownPlayers x = Due.town(LINE + "ear 0 0;ear 25 0;ear 50 0;");
        DUE.is("27 most: all 15 pairs", x.nextEar(63), 2);
        DUE.is("27 as many by both: the least", x.nextEar(7), 1);
        DUE.is("27 by the last alone", x.nextEar(56), 2);
        DUE.is("27 12 pairs and 15", x.nextEar(62), 2);
        DUE.is("27 the pair of 2 and 3", x.nextEar(12), 1);
        // Apart by one part alone.
        TownPlayers y = Due.town("window 0 0;window 1 0;ear 0 0;ear 0 0;ear 1 0;slow 1;");
        DUE.is("27 by two parts", y.nextEar(3), 2);
        // A pair counts once: EAR 1 parts by x (0 and 2 from 1 and 3: 4 pairs), EAR 2 by y (all but 0 and 1: 5 pairs).
        TownPlayers pairs = Due.town("window 0 0;window 10 0;window 0 5;window 10 10;ear 0 0;ear 10 0;ear 0 10;");
        DUE.is("27 5 pairs rather than 4", pairs.nextEar(15), 2);
        DUE.is("27 two pairs by each: the least", pairs.nextEar(7), 1);
        DUE.is("27 three pairs rather than two", pairs.nextEar(13), 2);
        // As far apart without sign, but not the same way.
        TownPlayers z = Due.town("window 0 0;window 10 0;ear 0 0;ear 10 0;");
        DUE.is("27 the sign counts", z.nextEar(3), 1);
    }

    /** "how many of the five WINDX (0 .. 5)". */
    private static void drawnFromNoneToFive() {
        TownPlayers x = Due.town("window 10 0;window 20 0;ear 0 0;player 0 0 50;player 0 1 50;offset 0 30;");
        // 60 and 60, with 10 and 20 times WINDX: apart by 10 times WINDX, without sign.
        int[] bounds = {0, 1, 9, 1, 10, 3, 19, 3, 20, 5, 999, 5};
        for (int k = 0; k < bounds.length; k += 2) DUE.is("28 drawn(" + bounds[k] + ")", x.drawn(bounds[k]), bounds[k + 1]);
        x.offset(0, 10);
        // Apart by 20 and 10 times WINDX: 0, 10, 20, 30, 40.
        for (int n = 0; n <= 50; n++) DUE.is("28 drawn(" + n + ")", x.drawn(n), Math.min(5, n / 10 + 1));
        x.offset(0, 9);
        DUE.is("28 none of the five", x.drawn(0), 0);
        for (int wind = -2; wind <= 2; wind++) {
            x.put(1, wind);
            DUE.is("28 whatever WINDX is", x.drawn(21), 3);
            DUE.is("28 it stays", x.put(1, wind), wind);
        }
        DUE.is("28 nobody", new TownPlayers().drawn(0), 5);
        // SOUND is 0 at least in each of them.
        TownPlayers y = Due.town("window 0 0;window 0 1;ear 10 0;slow 1;player 0 0 50;player 0 1 50;");
        DUE.is("28 apart by 1 but where both are 0", y.drawn(0), 1);
        DUE.is("28 apart by 1 at most", y.drawn(1), 5);
    }

    // ---- 29 to 33

    /** "IMAGES 0, 1 keep all but them, THE TEXT and STATUS; it goes on from one". */
    private static void imagesKeepAll() {
        for (int i = 0; i < 2; i++) {
            TownPlayers x = Due.town(LINE + BAND);
            x.follow(0, 1);
            for (int k = 0; k < 9; k++) x.round();
            DUE.is("29 image(" + i + ")", x.image(i), 1);
            long was = x.digest();
            Due.read(x, "ear 1 1;mill 2 2;slow 9;");
            for (int what = 1; what < 4; what++) x.put(what, 2);
            x.undo();
            x.image(1 - i);
            DUE.is("30 from(" + i + ")", x.from(i), 1);
            DUE.is("30 no EARS again", x.count(1), 0);
            DUE.is("30 THE TEXT is not of it", x.clear(), 24);
            Due.type(x, LINE + BAND);
            DUE.is("30 all else, no MILL, too", x.digest(), was);
            DUE.is("30 STATUS is not of it", x.status(1), 1);
            for (int k = 0; k < 8; k++) DUE.is("30 ROUNDS that may be undone are of it", x.undo(), 1);
            DUE.is("30 eight of them", x.undo(), TownPlayers.NO);
            offsets("30 as ahead of the second", x, 30);
            DUE.is("30 the other one", x.from(1 - i), 1);
            DUE.is("30 WIND is of it", x.put(1, 0), 2);
            DUE.is("30 none may be undone there", x.undo(), TownPlayers.NO);
        }
        TownPlayers empty = new TownPlayers();
        empty.image(0);
        empty.window(1, 1);
        empty.player(0, 0, 9);
        empty.mill(0, 0);
        DUE.is("30 from an IMAGE of nothing", empty.from(0), 1);
        DUE.is("30 nothing is there", empty.digest(), sum(0, 0, 0, 0, 0, -1, -1, 3, 0, 0, 0));
    }

    /** An IMAGE does not go on with what goes on from it, nor with the other one. */
    private static void imagesAreApart() {
        TownPlayers x = Due.town("window 1 1;window 2 2;player 0 0 9;player 0 1 9;");
        x.follow(0, 1);
        x.image(0);
        long first = x.digest();
        x.round();
        x.image(1);
        long second = x.digest();
        for (int k = 0; k < 3; k++) {
            x.from(0);
            DUE.is("30 the first", x.digest(), first);
            x.offset(0, 77);
            x.offset(1, 78);
            x.follow(1, 0);
            x.round();
            x.from(1);
            DUE.is("30 the second", x.digest(), second);
            x.offset(0, 79);
            x.round();
            x.undo();
            x.undo();
        }
        x.image(0);
        x.from(1);
        DUE.is("29 the first kept anew, the second stays", x.digest(), second);
        x.from(0);
        offsets("29 the first kept anew", x, 0, 0);
    }

    /** "BAD (0), NO (1), FULL (2)": each by itself. */
    private static void statusByReason() {
        TownPlayers x = new TownPlayers();
        int[] due = new int[3];
        for (int k = 0; k < 4; k++) {
            x.undo();
            due[1]++;
            for (int r = 0; r < 3; r++) DUE.is("31 NO " + k, x.status(r), due[r]);
            x.ear(1, 1);
            if (k == 3) due[2]++;
            for (int r = 0; r < 3; r++) DUE.is("31 FULL " + k, x.status(r), due[r]);
            DUE.is("31 another what", x.status(3), -1);
            due[0]++;
            for (int r = 0; r < 3; r++) DUE.is("31 BAD " + k, x.status(r), due[r]);
        }
    }

    private static void countsAtTheirEdges() {
        TownPlayers x = new TownPlayers();
        for (int n = 0; n < 8; n++) {
            int[] due = {Math.min(6, n), Math.min(3, n), Math.min(6, n), 0, 8 * n};
            for (int what = 0; what < 5; what++) DUE.is("32 count(" + what + ") of " + n, x.count(what), due[what]);
            x.window(n, n);
            x.ear(n, n);
            x.player(0, n, 9);
            x.type(0, 8);
        }
        for (int n = 0; n < 10; n++) {
            DUE.is("32 count(3) of " + n, x.count(3), Math.min(8, n));
            x.round();
        }
        DUE.is("32 count(4)", x.count(4), 64);
    }

    /** All there is at once, at its greatest, so that h goes round more than once. */
    private static void digestOfAll() {
        TownPlayers x = Due.town("window 99 98;window 97 96;window 95 94;window 93 92;window 91 90;window 89 88;"
                + "ear 87 86;ear 85 84;ear 83 82;mill 99 81;slow 9;");
        int[] h = {6, 3, 6, 8, 250, 99, 98, 97, 96, 95, 94, 93, 92, 91, 90, 89, 88, 87, 86, 85, 84, 83, 82, 99, 81, 9, -2, 2, 999};
        int[] all = Arrays.copyOf(h, h.length + 30);
        for (int p = 0; p < 6; p++) x.player(5 - p, 5 - p, 99 - p);
        x.put(1, -2);
        x.put(2, 2);
        x.put(3, 999);
        for (int k = 0; k < 8; k++) x.round();
        x.clear();
        Due.type(x, ";".repeat(250));
        for (int p = 0; p < 6; p++) {
            x.offset(p, p % 2 == 0 ? 500 - p : p - 500);
            x.follow(p, (p + 4) % 6);
            int[] told = {5 - p, 5 - p, 99 - p, p % 2 == 0 ? 500 - p : p - 500, (p + 4) % 6};
            System.arraycopy(told, 0, all, h.length + 5 * p, 5);
        }
        DUE.is("33 all there is", x.digest(), sum(all));
        DUE.is("33 once more", x.digest(), sum(all));
    }
}
