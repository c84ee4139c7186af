/** Promises 25 to 28: best places, wrong notes, wind drawn. */
final class PlacesPromisesTest {
    private static final Due DUE = new Due("PlacesPromisesTest");
    private static final String TWO_EARS = "window 10 10; window 20 10; ear 10 20; ear 30 10;";

    private PlacesPromisesTest() {}

    public static void main(String[] args) {
        bestByLoudness();
        bestBySpread();
        bestOfAsleep();
        bestRefused();
        wrong();
        wrongRefused();
        nextEar();
        nextEarByMost();
        drawn();
        DUE.end();
    }

    private static void best(String town, int... due) {
        TownPlayers x = Due.town(town);
        long was = x.digest();
        for (int p = 0; p < due.length; p++) DUE.is("25 of '" + town + "' best(" + p + ")", x.best(p), due[p]);
        DUE.is("25 nothing changes", x.digest(), was);
    }

    private static void bestByLoudness() {
        String line = "window 0 0; window 0 10; ear 0 0;";
        // 50 and 10 by (0, 1), 40 and 20 by (1, 0).
        best(line + "player 0 0 50; player 0 1 20;", 1, 0);
        best(line + "player 0 1 20; player 0 0 50;", 0, 1);
        best(line + "player 0 1 50;", 0);
        // None is heard anywhere: all are as loud, and the first way is told.
        best("window 90 90; window 80 90; ear 0 0; player 0 1 20; player 0 0 30;", 0, 1);
        // The least at all ears counts: the middle window is best for one.
        best("window 0 0; window 10 0; window 20 0; ear 0 0; ear 20 0; player 0 0 50;", 1);
        // 11 and 0 by (0, 1), 1 and 10 by (1, 0).
        best(line + "player 0 0 11; player 0 1 10;", 1, 0);
        // The second window of TWO is not asked how loud it is: 9 less nothing, 50 less 40.
        best("window 0 0; window 40 0; ear 0 0; player 4 1 9; player 0 0 50;", 0, 1);
        best("window 0 0; window 40 0; ear 0 0; player 5 0 9; player 0 1 50;", 1, 0);
    }

    private static void bestBySpread() {
        String square = "window 0 0; window 0 10; ear 0 0; player 0 0 50; player 0 1 50;";
        best(square, 0, 1);
        best(square + "offset 0 30;", 0, 1);
        best(square + "offset 1 30;", 1, 0);
        // Of all ears together: 0 and 60 are as good as 30 and 30, and the first way comes first.
        best("window 10 10; window 20 10; ear 10 20; ear 30 10; player 0 0 50; player 0 1 50;", 0, 1);
        // Player 1 is loudest at windows 0 and 1. SPREADS by (0, 1): 60, 60; (1, 0): 120, 0; (2, 0): 150, 30; (2, 1): 60, 0.
        best("window 30 0; window 0 0; window 0 10; ear 30 0; ear 10 10; player 0 0 99; player 0 1 70; offset 0 60; offset 1 30;", 2, 1);
        TownPlayers x = Due.town("window 0 0; window 20 0; ear 10 0; player 0 0 50; player 0 1 50;");
        DUE.is("25 without wind", x.best(0), 0);
        x.offset(0, 30);
        DUE.is("25 an OFFSET of 30", x.best(0), 0);
        x.put(1, 1);
        // By (0, 1): 30 + 20, 40; by (1, 0): 30 + 40, 20.
        DUE.is("25 with wind", x.best(0), 0);
        x.put(1, -1);
        DUE.is("25 with the wind turned", x.best(0), 1);
    }

    private static void bestOfAsleep() {
        best("window 0 0; window 90 90; window 9 9; ear 5 5; player 5 2 50; player 5 1 50;", 0, 1);
        best("window 0 0; window 0 10; ear 0 0; player 5 0 1; player 0 1 50;", 1, 0);
    }

    private static void bestRefused() {
        TownPlayers x = Due.town("window 0 0; window 0 10; player 0 0 50; player 0 1 20;");
        DUE.is("25 no ears", x.best(0), TownPlayers.NONE);
        DUE.is("25 NONE is no refusal", x.status(0), 0);
        DUE.is("25 best(2): BAD goes ahead of NONE", x.best(2), TownPlayers.BAD);
        DUE.is("25 best(-1)", x.best(-1), TownPlayers.BAD);
        DUE.is("25 status(0)", x.status(0), 2);
        x.ear(0, 0);
        DUE.is("25 best(1)", x.best(1), 0);
        TownPlayers six = Due.town("window 0 0; window 1 0; window 2 0; window 3 0; window 4 0; window 5 0; ear 0 0;"
                + "player 0 0 90; player 0 1 80; player 0 2 70; player 0 3 60; player 0 4 50; player 0 5 40;");
        // Player 5 is least loud anywhere, so it is nearest; the others are as near in time in any order.
        for (int p = 0; p < 6; p++) DUE.is("25 six at six: best(" + p + ")", six.best(p), (p + 1) % 6);
    }

    private static void wrong() {
        TownPlayers x = Due.town(TWO_EARS);
        DUE.is("26 at one ear", x.wrong(1, 100, 0, 0), 3);
        DUE.is("26 whatever its beginning", x.wrong(2, 0, 0, 0), 3);
        DUE.is("26 from window 0", x.wrong(3, 100, 130, 0), 1);
        DUE.is("26 from window 1", x.wrong(3, 130, 100, 0), 2);
        DUE.is("26 from nowhere", x.wrong(3, 100, 100, 0), TownPlayers.NONE);
        DUE.is("26 the third time is not asked", x.wrong(3, 9999, 9969, 5), 2);
        DUE.is("26 begun below 0", x.wrong(3, 0, 30, 0), 1);
        x.put(1, 1);
        DUE.is("26 in wind", x.wrong(3, 100, 110, 0), 1);
        DUE.is("26 no refusals", x.status(0), 0);
        x.put(1, 0);
        x.ear(20, 20);
        DUE.is("26 by three ears", x.wrong(7, 100, 130, 130), 1);
        DUE.is("26 by three that disagree", x.wrong(7, 100, 130, 129), TownPlayers.NONE);
        DUE.is("26 by the first and the third", x.wrong(5, 130, 9999, 100), 2);
        DUE.is("26 no windows", Due.town("ear 1 1;").wrong(1, 5, 0, 0), TownPlayers.NONE);
    }

    private static void wrongRefused() {
        TownPlayers x = Due.town(TWO_EARS);
        int[][] bad = {{0, 5, 5, 5}, {-1, 5, 5, 5}, {4, 5, 5, 5}, {7, 5, 5, 5}, {8, 5, 5, 5}, {1, -1, 5, 5}, {3, 5, 10000, 5},
                {2, -1, 5, 5}, {2, 10000, 5, 5}, {1, 5, -1, 5}, {1, 5, 10000, 5}, {3, 5, 5, -1}, {3, 5, 5, 10000}};
        for (int[] c : bad) DUE.is("26 wrong(" + c[0] + ", " + c[1] + ", " + c[2] + ", " + c[3] + ")", x.wrong(c[0], c[1], c[2], c[3]), TownPlayers.BAD);
        DUE.is("26 status(0)", x.status(0), bad.length);
        DUE.is("26 times at their bounds where nothing was heard", x.wrong(1, 5, 0, 9999), 3);
        DUE.is("26 times at their other bounds", x.wrong(1, 9999, 9999, 0), 3);
    }

    private static void nextEar() {
        TownPlayers x = Due.town(TWO_EARS);
        DUE.is("27 nextEar(3)", x.nextEar(3), 1);
        DUE.is("27 nextEar(1)", x.nextEar(1), TownPlayers.NONE);
        DUE.is("27 nextEar(0)", x.nextEar(0), TownPlayers.NONE);
        DUE.is("27 no refusals", x.status(0), 0);
        DUE.is("27 nextEar(4)", x.nextEar(4), TownPlayers.BAD);
        DUE.is("27 nextEar(-1)", x.nextEar(-1), TownPlayers.BAD);
        DUE.is("27 status(0)", x.status(0), 2);
        DUE.is("27 no ears", Due.town("window 1 1; window 2 9;").nextEar(3), TownPlayers.NONE);
        DUE.is("27 one ear", Due.town("window 1 1; window 2 9; ear 5 5;").nextEar(3), TownPlayers.NONE);
        DUE.is("27 two ears at one place", Due.town("window 1 1; window 2 9; ear 5 5; ear 5 5;").nextEar(3), TownPlayers.NONE);
        DUE.is("27 of like ones the least", Due.town(TWO_EARS + "ear 30 10;").nextEar(3), 1);
        DUE.is("27 the one that parts them", Due.town("window 10 10; window 20 10; ear 10 20; ear 10 20; ear 30 10;").nextEar(3), 2);
    }

    private static void nextEarByMost() {
        // To ear 1 all but window 0 are as far apart from ear 0; to ear 2 all are not.
        TownPlayers x = Due.town("window 50 0; window 20 0; window 10 0; window 0 0; ear 30 0; ear 40 0; ear 15 0;");
        DUE.is("27 most two", x.nextEar(15), 2);
        DUE.is("27 of some windows", x.nextEar(6), 2);
        DUE.is("27 of two that none parts", x.nextEar(12), TownPlayers.NONE);
        DUE.is("27 as many by ear 1", x.nextEar(3), 1);
        // As far apart, but one is nearer to ear 0 and one to ear 1: the sign counts.
        TownPlayers y = Due.town("window 0 0; window 30 0; ear 10 0; ear 20 0;");
        DUE.is("27 the sign counts", y.nextEar(3), 1);
        TownPlayers z = Due.town("window 15 0; window 0 30; ear 0 0; ear 30 0;");
        z.put(1, 1);
        DUE.is("27 in wind", z.nextEar(3), 1);
    }

    private static void drawn() {
        TownPlayers x = Due.town("window 10 10; window 20 10; ear 10 20; player 0 0 50; player 0 1 50;");
        // 30 and 60 with 10 times WINDX: a spread of 10, 20, 30, 40, 50.
        int[][] due = {{9, 0}, {10, 1}, {30, 3}, {49, 4}, {50, 5}, {999, 5}, {0, 0}};
        for (int[] d : due) DUE.is("28 drawn(" + d[0] + ")", x.drawn(d[0]), d[1]);
        x.put(1, -1);
        DUE.is("28 whatever WINDX is", x.drawn(30), 3);
        DUE.is("28 WINDX stays", x.put(1, 0), -1);
        x.put(2, 2);
        DUE.is("28 WINDY blows on", x.drawn(30), 3);
        DUE.is("28 drawn(-1)", x.drawn(-1), TownPlayers.BAD);
        DUE.is("28 drawn(1000)", x.drawn(1000), TownPlayers.BAD);
        DUE.is("28 status(0)", x.status(0), 2);
        DUE.is("28 no ears", new TownPlayers().drawn(0), 5);
    }
}
