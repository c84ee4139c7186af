/** Promises 29 to 33: images, STATUS, counts and the digest. */
final class RestPromisesTest {
    private static final Due DUE = new Due("RestPromisesTest");
    private static final int NONE = TownPlayers.NONE;
    private static final String TOWN = "window 1 2; window 3 4; ear 5 6; mill 7 8; slow 4; player 0 0 50; player 3 1 60; offset 1 - 9;";

    private RestPromisesTest() {}

    public static void main(String[] args) {
        image();
        imagesAreTwo();
        fromRefused();
        status();
        count();
        digest();
        digestAsTold();
        wildNumbers();
        DUE.end();
    }

    private static void image() {
        TownPlayers x = Due.town(TOWN);
        x.put(1, 1);
        x.put(2, -2);
        x.put(3, 7);
        x.follow(0, 1);
        x.round();
        DUE.is("29 image(0)", x.image(0), 1);
        long kept = x.digest();
        x.window(9, 9);
        x.ear(9, 9);
        x.mill(9, 9);
        for (int what = 0; what <= 3; what++) x.put(what, 2);
        x.player(1, 2, 33);
        x.follow(0, 0);
        x.offset(0, 333);
        x.round();
        x.clear();
        x.ear(100, 0);
        DUE.is("30 from(0)", x.from(0), 1);
        DUE.is("30 THE TEXT is not of it", x.count(4), 0);
        DUE.is("30 STATUS is not of it", x.status(0), 1);
        Due.type(x, TOWN);
        DUE.is("30 all else is", x.digest(), kept);
        DUE.is("30 the round may be undone", x.undo(), 1);
        DUE.is("30 as ahead of it", x.late(0, 0), 0);
        DUE.is("30 once more", x.from(0), 1);
        DUE.is("30 the image stayed", x.digest(), kept);
        x.round();
        x.image(0);
        DUE.is("29 it is kept anew", x.from(0) + x.count(3), 3);
    }

    private static void imagesAreTwo() {
        TownPlayers x = new TownPlayers();
        DUE.is("29 image(1) of nothing", x.image(1), 1);
        x.window(5, 5);
        DUE.is("29 image(0)", x.image(0), 1);
        x.window(6, 6);
        x.from(1);
        DUE.is("30 from(1)", x.count(0), 0);
        x.from(0);
        DUE.is("30 from(0)", x.count(0), 1);
        DUE.is("29 image(-1)", x.image(-1), TownPlayers.BAD);
        DUE.is("29 image(2)", x.image(2), TownPlayers.BAD);
        DUE.is("29 status(0)", x.status(0), 2);
    }

    private static void fromRefused() {
        TownPlayers x = Due.town(TOWN);
        long was = x.digest();
        DUE.is("30 from(1)", x.from(1), TownPlayers.NO);
        DUE.is("30 from(2): BAD goes ahead of NO", x.from(2), TownPlayers.BAD);
        DUE.is("30 from(-1)", x.from(-1), TownPlayers.BAD);
        x.image(0);
        DUE.is("30 the other was not kept", x.from(1), TownPlayers.NO);
        DUE.is("30 nothing changes", x.digest(), was);
        DUE.is("31 status(0)", x.status(0), 2);
        DUE.is("31 status(1)", x.status(1), 2);
    }

    private static void status() {
        TownPlayers x = new TownPlayers();
        DUE.is("31 status(3)", x.status(3), -1);
        DUE.is("31 status(-1)", x.status(-1), -1);
        DUE.is("31 they count as BAD", x.status(0), 2);
        x.put(9, 9);
        x.offset(0, 0);
        x.late(0, 0);
        x.heard(0, 0, 0);
        x.loud(0, 0);
        x.tuned(-1, 0);
        x.count(5);
        DUE.is("31 each BAD whatever it answers", x.status(0), 9);
        x.undo();
        x.from(0);
        DUE.is("31 NO", x.status(1), 2);
        for (int k = 0; k < 4; k++) x.ear(1, 1);
        DUE.is("31 FULL", x.status(2), 1);
        DUE.is("31 BAD is as it was", x.status(0), 9);
    }

    private static void count() {
        TownPlayers x = Due.town(TOWN);
        x.round();
        int[] due = {2, 1, 2, 1, TOWN.length()};
        for (int what = 0; what < 5; what++) DUE.is("32 count(" + what + ")", x.count(what), due[what]);
        DUE.is("32 count(5)", x.count(5), TownPlayers.BAD);
        DUE.is("32 count(-1)", x.count(-1), TownPlayers.BAD);
        DUE.is("32 status(0)", x.status(0), 2);
    }

    private static long sum(int... all) {
        long h = 677;
        for (int v : all) h = 31 * h + v;
        return h;
    }

    private static void digest() {
        TownPlayers x = Due.town(TOWN);
        x.put(1, 1);
        x.put(2, -2);
        x.put(3, 7);
        x.follow(0, 1);
        DUE.is("33 digest()", x.digest(), sum(2, 1, 2, 0, TOWN.length(), 1, 2, 3, 4, 5, 6, 7, 8, 4, 1, -2, 7,
                0, 0, 50, 0, 1, 3, 1, 60, -9, 1));
        x.status(9);
        x.image(0);
        DUE.is("33 STATUS and IMAGES are not of it", x.digest(), sum(2, 1, 2, 0, TOWN.length(), 1, 2, 3, 4, 5, 6, 7, 8, 4, 1, -2, 7,
                0, 0, 50, 0, 1, 3, 1, 60, -9, 1));
    }

    private static void digestAsTold() {
        TownPlayers x = new TownPlayers();
        x.window(3, 5);
        DUE.is("33 no mill", x.digest(), sum(1, 0, 0, 0, 0, 3, 5, -1, -1, 3, 0, 0, 0));
        x.mill(0, 0);
        x.type(59, 1);
        x.round();
        DUE.is("33 a mill at 0, 0", x.digest(), sum(1, 0, 0, 1, 1, 3, 5, 0, 0, 3, 0, 0, 0));
    }

    /** Numbers far beyond all bounds, in a town that is empty and in one that is full, are answered. */
    private static void wildNumbers() {
        int[] wild = {Integer.MIN_VALUE, Integer.MIN_VALUE + 1, -32, -7, -2, -1, 6, 31, 32, 33, 63, 64, 1 << 30, Integer.MAX_VALUE};
        TownPlayers full = Due.town("window 1 1;window 2 2;window 3 3;window 4 4;window 5 5;window 6 6;ear 1 1;ear 2 2;ear 3 3;mill 9 9;"
                + "player 0 0 9;player 1 1 9;player 2 2 9;player 3 3 9;player 4 4 9;player 5 5 9;");
        // The echo is not heard at all, the second window of TWO at ears 1 and 2.
        int[] many = {5, 6, 6}, spreads = {24 + 14, 24 + 20, 18 + 14};
        for (int e = 0; e < 3; e++) {
            DUE.is("full: heard at " + e, full.heard(e, 0, NONE), many[e]);
            DUE.is("full: spread at " + e, full.spread(e), spreads[e]);
        }
        DUE.is("full: together", full.together(999), 1);
        DUE.is("full: tuned", full.tuned(999, 5), -500);
        DUE.is("full: clash", full.clash(999), NONE);
        DUE.is("full: leftOut", full.leftOut(999), 0);
        DUE.is("full: drawn", full.drawn(999), 5);
        DUE.is("full: round", full.round(), 0);
        DUE.is("full: settles", full.settles(), 0);
        DUE.is("full: slip", full.slip(5, 9, 20), 32);
        DUE.is("full: nextEar", full.nextEar(63), 2);
        DUE.is("full: wrong", full.wrong(7, 99, 99, 99), NONE);
        for (int a : wild) {
            long bad = full.status(0), kept = full.digest();
            int beyond = a < 0 || a > 99 ? a : a + 100;
            full.window(beyond, 5);
            full.ear(5, beyond);
            full.mill(beyond, beyond);
            full.player(a, 0, 5);
            full.player(0, a, 5);
            full.player(0, 0, a);
            full.offset(a, 0);
            full.offset(0, a < 0 ? Integer.MIN_VALUE : Integer.MAX_VALUE);
            full.late(a, 0);
            full.sound(a, 0);
            full.sound(0, a == 6 ? 3 : a);
            full.type(-1, a == 6 ? 9 : a == -1 || a == -2 ? 0 : a);
            full.heard(a, 0, 0);
            full.loud(0, a < 0 ? a : Integer.MIN_VALUE);
            full.spread(a);
            full.tuned(0, a == -1 ? 7 : a);
            full.follow(0, a);
            full.follow(a, 0);
            full.slip(a, 0, 0);
            full.best(a);
            full.wrong(a == 6 ? 8 : a, 0, 0, 0);
            full.nextEar(a >= 0 && a < 64 ? a + 64 : a);
            full.image(a);
            full.from(a);
            full.status(a);
            full.count(a);
            DUE.is("wild " + a + " is BAD wherever it stands", full.status(0), bad + 26);
            DUE.is("wild " + a + " changes nothing", full.digest(), kept);
        }
    }
}
