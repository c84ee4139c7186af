/** Promises 20 to 24: who follows whom. */
final class RoundsPromisesTest {
    private static final Due DUE = new Due("RoundsPromisesTest");
    // 10 paces, 30 parts, from window to window.
    private static final String TOWN = "window 10 10; window 20 10; window 30 10; player 0 0 50; player 1 1 50; player 5 2 50;";

    private RoundsPromisesTest() {}

    public static void main(String[] args) {
        follow();
        round();
        roundHeld();
        undo();
        undoEightAtMost();
        settles();
        settlesInTwenty();
        slip();
        slipHeld();
        DUE.end();
    }

    private static void offsets(String when, TownPlayers x, int... due) {
        for (int p = 0; p < due.length; p++) DUE.is(when + ": OFFSET of " + p, x.late(p, 0), due[p]);
    }

    private static void follow() {
        TownPlayers x = Due.town(TOWN);
        DUE.is("20 follow(0, 2)", x.follow(0, 2), 0);
        DUE.is("20 follow(0, 1)", x.follow(0, 1), 2);
        DUE.is("20 follow(0, 0)", x.follow(0, 0), 1);
        int[][] bad = {{-1, 0}, {3, 0}, {0, -1}, {0, 3}};
        for (int[] c : bad) DUE.is("20 follow(" + c[0] + ", " + c[1] + ")", x.follow(c[0], c[1]), TownPlayers.BAD);
        DUE.is("20 status(0)", x.status(0), 4);
        DUE.is("20 it stays", x.follow(0, 0), 0);
    }

    private static void round() {
        TownPlayers x = Due.town(TOWN);
        DUE.is("21 all listen to themselves", x.round(), 0);
        x.put(1, 2);
        x.follow(0, 1);
        x.follow(1, 2);
        x.follow(2, 0);
        x.offset(0, 1);
        x.offset(1, 2);
        x.offset(2, 3);
        // All at once, by OFFSET (not LATE), without WIND.
        DUE.is("21 round()", x.round(), 3);
        offsets("21 behind one", x, 32, 33, 61);
        x.put(3, 30);
        x.put(0, 1);
        DUE.is("21 less CATCH", x.round(), 3);
        offsets("21 less CATCH", x, 13, 41, 22);
        x.follow(1, 1);
        x.follow(2, 2);
        x.offset(0, 21);
        DUE.is("21 none becomes another", x.round(), 0);
        offsets("21 as they were", x, 21, 41, 22);
        DUE.is("21 no players", new TownPlayers().round(), 0);
    }

    private static void roundHeld() {
        TownPlayers x = Due.town(TOWN);
        x.follow(0, 1);
        x.offset(1, 490);
        DUE.is("21 held at 500", x.round(), 1);
        offsets("21 held at 500", x, 500, 490);
        x.put(3, 999);
        x.offset(1, -400);
        DUE.is("21 held at -500", x.round(), 1);
        offsets("21 held at -500", x, -500, -400);
        DUE.is("21 still held", x.round(), 0);
    }

    private static void undo() {
        TownPlayers x = Due.town(TOWN);
        DUE.is("22 none may be", x.undo(), TownPlayers.NO);
        DUE.is("22 status(1)", x.status(1), 1);
        x.offset(0, 5);
        x.follow(0, 1);
        x.round();
        offsets("22 behind the round", x, 30, 0, 0);
        x.offset(1, 70);
        x.follow(2, 1);
        x.put(3, 9);
        DUE.is("22 undo()", x.undo(), 1);
        offsets("22 as ahead of the round", x, 5, 0, 0);
        DUE.is("22 nothing else: whom one listens to", x.follow(2, 1), 1);
        DUE.is("22 nothing else: CATCH", x.put(3, 0), 9);
        DUE.is("22 once only", x.undo(), TownPlayers.NO);
        x.follow(0, 0);
        x.follow(2, 2);
        DUE.is("22 a round that changes nothing", x.round(), 0);
        DUE.is("22 may be undone, too", x.undo(), 1);
        DUE.is("22 status(1)", x.status(1), 2);
    }

    private static void undoEightAtMost() {
        TownPlayers x = Due.town(TOWN);
        x.follow(0, 1);
        x.follow(1, 0);
        for (int k = 1; k <= 10; k++) {
            DUE.is("22 round " + k, x.round(), 2);
            DUE.is("32 rounds that may be undone", x.count(3), Math.min(k, 8));
        }
        offsets("22 behind ten", x, 300, 300, 0);
        for (int k = 9; k >= 2; k--) {
            DUE.is("22 undo() to " + k, x.undo(), 1);
            offsets("22 behind " + k, x, 30 * k, 30 * k, 0);
        }
        DUE.is("22 eight at most", x.undo(), TownPlayers.NO);
        offsets("22 it stays", x, 60, 60, 0);
    }

    private static void settles() {
        TownPlayers x = Due.town(TOWN);
        DUE.is("23 at once", x.settles(), 0);
        x.follow(1, 0);
        DUE.is("23 behind one", x.settles(), 1);
        x.follow(2, 1);
        DUE.is("23 behind two", x.settles(), 2);
        DUE.is("23 nothing changes", x.count(3), 0);
        offsets("23 nothing changes", x, 0, 0, 0);
        x.offset(1, 30);
        x.offset(2, 60);
        DUE.is("23 it is settled", x.settles(), 0);
        x.put(3, 30);
        x.offset(1, 0);
        x.offset(2, 0);
        x.follow(0, 1);
        DUE.is("23 two who catch it all", x.settles(), 0);
        x.offset(0, 1);
        DUE.is("23 two who change for ever", x.settles(), TownPlayers.NONE);
        DUE.is("23 NONE is no refusal", x.status(0) + x.status(1), 0);
        DUE.is("23 nobody", new TownPlayers().settles(), 0);
    }

    private static void settlesInTwenty() {
        TownPlayers x = Due.town("window 10 10; window 20 10; player 0 0 50; player 0 1 50;");
        x.follow(0, 1);
        x.follow(1, 0);
        // 30 a round up to 500.
        x.offset(0, -100);
        x.offset(1, -100);
        DUE.is("23 behind 20", x.settles(), 20);
        x.offset(1, -101);
        DUE.is("23 behind 21 is none", x.settles(), TownPlayers.NONE);
        x.put(3, 60);
        x.offset(0, -470);
        x.offset(1, -470);
        DUE.is("23 down to -500", x.settles(), 1);
    }

    private static void slip() {
        TownPlayers x = Due.town(TOWN);
        x.follow(1, 0);
        x.follow(2, 1);
        long was = x.digest();
        int[] chain = {1, 3, 7, 7};
        for (int r = 0; r < chain.length; r++) DUE.is("24 slip(0, 5, " + r + ") down a chain", x.slip(0, 5, r), chain[r]);
        int[] healed = {2, 4, 0, 0};
        for (int r = 0; r < healed.length; r++) DUE.is("24 slip(1, -5, " + r + ") dies out", x.slip(1, -5, r), healed[r]);
        DUE.is("24 no slip", x.slip(0, 0, 20), 0);
        DUE.is("24 nothing changes", x.digest(), was);
        x.follow(0, 2);
        x.put(3, 40);
        DUE.is("24 slip(0, 99, 20) goes round", x.slip(0, 99, 20), 4);
        int[][] bad = {{-1, 0, 0}, {3, 0, 0}, {0, -100, 0}, {0, 100, 0}, {0, 0, -1}, {0, 0, 21}};
        for (int[] c : bad) DUE.is("24 slip(" + c[0] + ", " + c[1] + ", " + c[2] + ")", x.slip(c[0], c[1], c[2]), TownPlayers.BAD);
        DUE.is("24 status(0)", x.status(0), 6);
        DUE.is("24 slip(2, -99, 0)", x.slip(2, -99, 0), 4);
    }

    private static void slipHeld() {
        TownPlayers x = Due.town(TOWN);
        x.offset(0, 500);
        DUE.is("24 a slip beyond 500 is none", x.slip(0, 1, 0), 0);
        DUE.is("24 a slip below is one", x.slip(0, -1, 0), 1);
        x.offset(0, -480);
        x.follow(1, 0);
        x.put(3, 50);
        DUE.is("24 both are held at -500", x.slip(0, -99, 1), 1);
        x.put(3, 49);
        DUE.is("24 one is not", x.slip(0, -99, 1), 3);
    }
}
