import java.util.ArrayList;
import java.util.List;

/**
 * "Refused, changing nothing but STATUS, the first of: BAD, NO, FULL". Each number of each call is tried at both its
 * bounds and beyond them; behind a refused call all that can be asked is held against a town that was not asked it.
 */
final class RefusedTest {
    private static final Due DUE = new Due("RefusedTest");
    private static final int BAD = TownPlayers.BAD, NO = TownPlayers.NO, FULL = TownPlayers.FULL, NONE = TownPlayers.NONE;
    private static final int MIN = Integer.MIN_VALUE, MAX = Integer.MAX_VALUE;

    private interface Call {
        long on(TownPlayers x, int[] a);
    }

    private interface Maker {
        TownPlayers make();
    }

    private RefusedTest() {}

    public static void main(String[] args) {
        placesInRange();
        playersInRange();
        heardInRange();
        roundsInRange();
        restInRange();
        badOfNothing();
        badOfFull();
        windowHasOne();
        full();
        no();
        firstOfThem();
        noRefusals();
        manyRefusals();
        DUE.end();
    }

    // ---- the towns that are asked

    /** Four windows, three of them with a player, two ears; nothing is full, all that can be had back is there. */
    private static TownPlayers half() {
        TownPlayers x = Due.town("window 10 10; window 20 12; window 35 14; window 17 40; ear 20 20; ear 30 11; mill 22 25; slow 4;"
                + "player 2 0 98; player 1 1 77; player 4 2 90; offset 0 7; offset 2 - 9;");
        x.image(1);
        x.put(1, 1);
        x.put(2, -2);
        x.put(3, 6);
        x.follow(0, 1);
        x.follow(1, 2);
        x.round();
        x.round();
        x.image(0);
        x.follow(2, 0);
        x.round();
        x.clear();
        Due.type(x, "window 1 1; ear 2 2;");
        return x;
    }

    private static TownPlayers crowded() {
        TownPlayers x = Due.town("window 0 0;window 1 0;window 2 9;window 3 0;window 4 8;window 5 0;ear 0 0;ear 5 5;ear 9 9;"
                + "mill 2 2;player 0 0 90;player 1 1 91;player 2 2 92;player 3 3 93;player 4 4 94;player 5 5 95;");
        x.image(0);
        for (int p = 0; p < 6; p++) x.follow(p, (p + 1) % 6);
        for (int k = 0; k < 9; k++) x.round();
        x.clear();
        Due.type(x, "slow 5;" + " ".repeat(243));
        return x;
    }

    /** All that can be asked, then all that can be had back. */
    private static List<Long> all(TownPlayers x) {
        List<Long> told = new ArrayList<>();
        askAll(x, told);
        for (int image = NONE; image < 2; image++) {
            if (image != NONE) told.add((long) x.from(image));
            told.add(x.digest());
            for (int k = 0; k < 9; k++) {
                told.add((long) x.undo());
                told.add(x.digest());
            }
        }
        told.add((long) x.read());
        told.add(x.digest());
        return told;
    }

    private static void askAll(TownPlayers x, List<Long> told) {
        for (int e = 0; e < x.count(1); e++) {
            told.add((long) x.spread(e));
            for (int i = NONE; i < 6; i++) told.add((long) x.heard(e, 0, i));
            for (int i = 0; i < 6; i++) told.add((long) x.loud(e, i));
        }
        for (int p = 0; p < x.count(2); p++) {
            told.add((long) x.late(p, 1));
            told.add((long) x.best(p));
            told.add((long) x.tuned(80, p));
            told.add((long) x.slip(p, 20, 2));
        }
        told.add((long) x.settles());
        told.add((long) x.drawn(40));
        told.add((long) x.clash(9));
        told.add((long) x.leftOut(9));
        told.add((long) x.nextEar((1 << x.count(0)) - 1));
    }

    // ---- what is asked of each call

    /** The call is refused with this answer for this reason (0 BAD, 1 NO, 2 FULL), and nothing else comes of it. */
    private static void refused(String what, Maker maker, int reason, long answer, Call call, int... a) {
        TownPlayers asked = maker.make(), other = maker.make();
        int[] was = {asked.status(0), asked.status(1), asked.status(2)};
        DUE.is(what, call.on(asked, a), answer);
        for (int r = 0; r < 3; r++) DUE.is(what + ": 31 status(" + r + ")", asked.status(r), was[r] + (r == reason ? 1 : 0));
        DUE.is(what + ": nothing else changes", all(asked).equals(all(other)) ? 1 : 0, 1);
    }

    private static void taken(String what, long bad, Call call, int... a) {
        TownPlayers x = half();
        DUE.is(what + " is taken", call.on(x, a) == bad ? 1 : 0, 0);
        for (int r = 0; r < 3; r++) DUE.is(what + ": no refusal, status(" + r + ")", x.status(r), 0);
    }

    /** The k-th number of the call is told from low to high (MIN, MAX: without a bound there). */
    private static void range(String name, long bad, Call call, int[] base, int k, int low, int high) {
        int[] within = {low, high}, beyond = {low - 1, MIN, high + 1, MAX};
        for (int v : within) {
            int[] a = base.clone();
            a[k] = v;
            taken(named(name, a), bad, call, a);
        }
        for (int j = 0; j < 4; j++) {
            if (j < 2 && low == MIN || j >= 2 && high == MAX) continue;
            int[] a = base.clone();
            a[k] = beyond[j];
            refused(named(name, a), RefusedTest::half, 0, bad, call, a);
        }
    }

    private static String named(String name, int... a) {
        StringBuilder s = new StringBuilder(name).append('(');
        for (int k = 0; k < a.length; k++) s.append(k == 0 ? "" : ", ").append(a[k]);
        return s.append(')').toString();
    }

    private static int[] of(int... a) {
        return a;
    }

    // ---- BAD: a number is not as told

    private static void placesInRange() {
        Call window = (x, a) -> x.window(a[0], a[1]), ear = (x, a) -> x.ear(a[0], a[1]), mill = (x, a) -> x.mill(a[0], a[1]);
        Call put = (x, a) -> x.put(a[0], a[1]);
        for (int k = 0; k < 2; k++) {
            range("2 window", BAD, window, of(5, 5), k, 0, 99);
            range("3 ear", BAD, ear, of(5, 5), k, 0, 99);
            range("4 mill", BAD, mill, of(5, 5), k, 0, 99);
        }
        range("5 put", -10, put, of(0, 1), 0, 0, 3);
        range("5 put SLOW", -10, put, of(0, 1), 1, 1, 9);
        range("5 put WINDX", -10, put, of(1, 1), 1, -2, 2);
        range("5 put WINDY", -10, put, of(2, 1), 1, -2, 2);
        range("5 put CATCH", -10, put, of(3, 1), 1, 0, 999);
        range("10 type", BAD, (x, a) -> x.type(0x3b3b3b3b3b3b3b3bL, a[0]), of(1), 0, 1, 8);
        range("9 sound", BAD, (x, a) -> x.sound(a[0], a[1]), of(0, 0), 0, 0, 3);
        range("9 sound", BAD, (x, a) -> x.sound(a[0], a[1]), of(0, 0), 1, 0, 1);
    }

    private static void playersInRange() {
        Call player = (x, a) -> x.player(a[0], a[1], a[2]);
        range("6 player", BAD, player, of(0, 3, 9), 0, 0, 5);
        // Windows 0 to 2 have a player, window 3 has none, window 4 is not there.
        range("6 player", BAD, player, of(0, 3, 9), 1, 3, 3);
        range("6 player", BAD, player, of(0, 3, 9), 2, 1, 99);
        range("7 offset", -1000, (x, a) -> x.offset(a[0], a[1]), of(0, 0), 0, 0, 2);
        range("7 offset", -1000, (x, a) -> x.offset(a[0], a[1]), of(0, 0), 1, -500, 500);
        range("8 late", -1000, (x, a) -> x.late(a[0], a[1]), of(0, 0), 0, 0, 2);
        range("8 late", -1000, (x, a) -> x.late(a[0], a[1]), of(0, 0), 1, 0, 1);
    }

    private static void heardInRange() {
        Call heard = (x, a) -> x.heard(a[0], a[1], a[2]), loud = (x, a) -> x.loud(a[0], a[1]);
        range("13 heard", -200000, heard, of(0, 0, 0), 0, 0, 1);
        range("13 heard", -200000, heard, of(0, 0, 0), 1, 0, 9999);
        range("13 heard how many", -200000, heard, of(0, 0, NONE), 1, 0, 9999);
        range("13 heard of so many", -200000, heard, of(0, 0, 99), 1, 0, 9999);
        range("13 heard", -200000, heard, of(0, 0, 0), 2, NONE, MAX);
        range("14 loud", -10, loud, of(0, 0), 0, 0, 1);
        range("14 loud", -10, loud, of(0, 0), 1, 0, MAX);
        range("15 spread", BAD, (x, a) -> x.spread(a[0]), of(0), 0, 0, 1);
        range("16 together", BAD, (x, a) -> x.together(a[0]), of(0), 0, 0, 999);
        range("17 tuned", -2000, (x, a) -> x.tuned(a[0], a[1]), of(0, NONE), 0, 0, 999);
        range("17 tuned", -2000, (x, a) -> x.tuned(a[0], a[1]), of(9, 0), 0, 0, 999);
        range("17 tuned", -2000, (x, a) -> x.tuned(a[0], a[1]), of(0, 0), 1, NONE, 2);
        range("18 clash", BAD, (x, a) -> x.clash(a[0]), of(0), 0, 0, 999);
        range("19 leftOut", BAD, (x, a) -> x.leftOut(a[0]), of(0), 0, 0, 999);
    }

    private static void roundsInRange() {
        Call follow = (x, a) -> x.follow(a[0], a[1]), slip = (x, a) -> x.slip(a[0], a[1], a[2]);
        range("20 follow", BAD, follow, of(0, 0), 0, 0, 2);
        range("20 follow", BAD, follow, of(0, 0), 1, 0, 2);
        range("24 slip", BAD, slip, of(0, 0, 0), 0, 0, 2);
        range("24 slip", BAD, slip, of(0, 0, 0), 1, -99, 99);
        range("24 slip", BAD, slip, of(0, 0, 0), 2, 0, 20);
    }

    private static void restInRange() {
        Call wrong = (x, a) -> x.wrong(a[0], a[1], a[2], a[3]);
        range("25 best", BAD, (x, a) -> x.best(a[0]), of(0), 0, 0, 2);
        range("26 wrong: no EARS, EARS that are not there", BAD, wrong, of(1, 5, 5, 5), 0, 1, 3);
        for (int ears = 1; ears <= 3; ears++) {
            for (int k = 1; k <= 3; k++) range("26 wrong", BAD, wrong, of(ears, 5, 5, 5), k, 0, 9999);
        }
        range("27 nextEar", BAD, (x, a) -> x.nextEar(a[0]), of(0), 0, 0, 15);
        range("28 drawn", BAD, (x, a) -> x.drawn(a[0]), of(0), 0, 0, 999);
        range("29 image", BAD, (x, a) -> x.image(a[0]), of(0), 0, 0, 1);
        range("30 from", BAD, (x, a) -> x.from(a[0]), of(0), 0, 0, 1);
        range("31 status: another what counts as BAD", -1, (x, a) -> x.status(a[0]), of(0), 0, 0, 2);
        range("32 count", BAD, (x, a) -> x.count(a[0]), of(0), 0, 0, 4);
    }

    /** Where there is no WINDOW, no EAR, no PLAYER, none can be told. */
    private static void badOfNothing() {
        Maker none = TownPlayers::new;
        refused("6 player, no windows", none, 0, BAD, (x, a) -> x.player(0, 0, 5));
        refused("7 offset, no players", none, 0, -1000, (x, a) -> x.offset(0, 0));
        refused("8 late, no players", none, 0, -1000, (x, a) -> x.late(0, 0));
        refused("9 sound, no windows, no ears", none, 0, BAD, (x, a) -> x.sound(0, 0));
        refused("13 heard, no ears", none, 0, -200000, (x, a) -> x.heard(0, 0, NONE));
        refused("14 loud, no ears", none, 0, -10, (x, a) -> x.loud(0, 0));
        refused("15 spread, no ears", none, 0, BAD, (x, a) -> x.spread(0));
        refused("17 tuned, no players", none, 0, -2000, (x, a) -> x.tuned(0, 0));
        refused("20 follow, no players", none, 0, BAD, (x, a) -> x.follow(0, 0));
        refused("24 slip, no players", none, 0, BAD, (x, a) -> x.slip(0, 0, 0));
        refused("25 best, no players", none, 0, BAD, (x, a) -> x.best(0));
        refused("26 wrong, no ears: none of none", none, 0, BAD, (x, a) -> x.wrong(0, 0, 0, 0));
        refused("26 wrong, no ears", none, 0, BAD, (x, a) -> x.wrong(1, 0, 0, 0));
        refused("27 nextEar, no windows", none, 0, BAD, (x, a) -> x.nextEar(1));
        Maker oneWindow = () -> Due.town("window 5 5;"), oneEar = () -> Due.town("ear 5 5;");
        refused("9 sound, no ears", oneWindow, 0, BAD, (x, a) -> x.sound(0, 0));
        refused("9 sound, no windows", oneEar, 0, BAD, (x, a) -> x.sound(0, 0));
        refused("27 nextEar, a window that is not there", oneWindow, 0, BAD, (x, a) -> x.nextEar(2));
        refused("27 nextEar, one that is and one that is not", oneWindow, 0, BAD, (x, a) -> x.nextEar(3));
        refused("26 wrong, an ear that is not there", oneEar, 0, BAD, (x, a) -> x.wrong(2, 0, 0, 0));
        refused("26 wrong, one that is and one that is not", oneEar, 0, BAD, (x, a) -> x.wrong(5, 0, 0, 0));
        refused("10 type nothing", none, 0, BAD, (x, a) -> x.type(59, 0));
    }

    /** Where all there can be is there, the number behind the last is still none. */
    private static void badOfFull() {
        Maker all = RefusedTest::crowded;
        refused("6 player at window 6", all, 0, BAD, (x, a) -> x.player(0, 6, 5));
        refused("7 offset of player 6", all, 0, -1000, (x, a) -> x.offset(6, 0));
        refused("8 late of player 6", all, 0, -1000, (x, a) -> x.late(6, 0));
        refused("9 sound from window 6", all, 0, BAD, (x, a) -> x.sound(6, 0));
        refused("9 sound to ear 3", all, 0, BAD, (x, a) -> x.sound(0, 3));
        refused("13 heard at ear 3", all, 0, -200000, (x, a) -> x.heard(3, 0, 0));
        refused("14 loud at ear 3", all, 0, -10, (x, a) -> x.loud(3, 0));
        refused("15 spread at ear 3", all, 0, BAD, (x, a) -> x.spread(3));
        refused("17 tuned of player 6", all, 0, -2000, (x, a) -> x.tuned(0, 6));
        refused("20 follow of player 6", all, 0, BAD, (x, a) -> x.follow(6, 0));
        refused("20 follow player 6", all, 0, BAD, (x, a) -> x.follow(0, 6));
        refused("24 slip of player 6", all, 0, BAD, (x, a) -> x.slip(6, 0, 0));
        refused("25 best of player 6", all, 0, BAD, (x, a) -> x.best(6));
        refused("26 wrong at ear 3", all, 0, BAD, (x, a) -> x.wrong(8, 0, 0, 0));
        refused("27 nextEar of window 6", all, 0, BAD, (x, a) -> x.nextEar(64));
    }

    /** "BAD: the WINDOW has one, too". */
    private static void windowHasOne() {
        for (int w = 0; w < 3; w++) {
            int at = w;
            refused("6 the WINDOW has one: " + w, RefusedTest::half, 0, BAD, (x, a) -> x.player(0, at, 5));
        }
        for (int w = 0; w < 6; w++) {
            int at = w;
            refused("6 six players: BAD, not FULL, at " + w, RefusedTest::crowded, 0, BAD, (x, a) -> x.player(0, at, 5));
        }
    }

    // ---- FULL and NO

    private static void full() {
        refused("2 FULL: 6", RefusedTest::crowded, 2, FULL, (x, a) -> x.window(0, 0));
        refused("3 FULL: 3", RefusedTest::crowded, 2, FULL, (x, a) -> x.ear(0, 0));
        for (int n = 1; n <= 8; n++) {
            refused("10 FULL: 250 bytes and more", RefusedTest::crowded, 2, FULL, (x, a) -> x.type(59, a[0]), n);
            int bytes = 251 - n;
            Maker almost = () -> {
                TownPlayers x = Due.town("window 1 1;");
                x.clear();
                Due.type(x, " ".repeat(bytes));
                return x;
            };
            refused("10 FULL: one byte too many of " + n, almost, 2, FULL, (x, a) -> x.type(59, a[0]), n);
            if (n > 1) DUE.is("10 250 bytes by " + (n - 1), almost.make().type(59, n - 1), 250);
        }
    }

    private static void no() {
        refused("22 NO: none may be, of a new one", TownPlayers::new, 1, NO, (x, a) -> x.undo());
        refused("22 NO: none may be, with players", () -> Due.town("window 1 1; player 0 0 9;"), 1, NO, (x, a) -> x.undo());
        refused("30 NO: 0 was not kept", TownPlayers::new, 1, NO, (x, a) -> x.from(0));
        refused("30 NO: 1 was not kept", TownPlayers::new, 1, NO, (x, a) -> x.from(1));
        refused("30 NO: only 0 was kept", RefusedTest::crowded, 1, NO, (x, a) -> x.from(1));
        Maker one = () -> {
            TownPlayers x = Due.town("window 1 1;");
            x.image(1);
            return x;
        };
        refused("30 NO: only 1 was kept", one, 1, NO, (x, a) -> x.from(0));
    }

    /** "the first of: BAD; NO; FULL". */
    private static void firstOfThem() {
        refused("2 BAD ahead of FULL", RefusedTest::crowded, 0, BAD, (x, a) -> x.window(100, 0));
        refused("2 BAD ahead of FULL", RefusedTest::crowded, 0, BAD, (x, a) -> x.window(0, -1));
        refused("3 BAD ahead of FULL", RefusedTest::crowded, 0, BAD, (x, a) -> x.ear(-1, 0));
        refused("3 BAD ahead of FULL", RefusedTest::crowded, 0, BAD, (x, a) -> x.ear(0, 100));
        refused("10 BAD ahead of FULL", RefusedTest::crowded, 0, BAD, (x, a) -> x.type(59, 0));
        refused("10 BAD ahead of FULL", RefusedTest::crowded, 0, BAD, (x, a) -> x.type(59, 9));
        refused("30 BAD ahead of NO", TownPlayers::new, 0, BAD, (x, a) -> x.from(2));
        refused("30 BAD ahead of NO", TownPlayers::new, 0, BAD, (x, a) -> x.from(-1));
    }

    /** Answers that tell of nothing found, and a FAULT, are none of the three. */
    private static void noRefusals() {
        TownPlayers x = Due.town("window 0 0; window 9 0; player 0 0 50; player 0 1 50;");
        DUE.is("25 NONE: no EARS", x.best(0), NONE);
        x.ear(0, 0);
        x.ear(9, 0);
        x.follow(0, 1);
        x.follow(1, 0);
        x.put(3, 500);
        x.offset(0, 499);
        DUE.is("13 -100000", x.heard(0, 0, 2), -100000);
        DUE.is("14 -5", x.loud(0, 2), -5);
        DUE.is("17 0", x.tuned(0, NONE), 0);
        DUE.is("17 -1000", x.tuned(0, 0), -1000);
        DUE.is("18 NONE", x.clash(999), NONE);
        DUE.is("26 NONE", x.wrong(3, 5, 5, 5), NONE);
        DUE.is("27 NONE", x.nextEar(1), NONE);
        x.put(3, 26);
        DUE.is("23 NONE", x.settles(), NONE);
        x.clear();
        x.type('x', 1);
        DUE.is("12 a FAULT", x.read(), -10);
        for (int r = 0; r < 3; r++) DUE.is("31 they are no refusals, status(" + r + ")", x.status(r), 0);
    }

    /** All 512 calls that an object is used for may be refused, each counted. */
    private static void manyRefusals() {
        TownPlayers x = new TownPlayers();
        for (int k = 0; k < 509; k++) x.spread(0);
        DUE.is("31 509 of BAD", x.status(0), 509);
        DUE.is("31 none of NO", x.status(1), 0);
        DUE.is("31 none of FULL", x.status(2), 0);
        TownPlayers y = new TownPlayers();
        for (int k = 0; k < 511; k++) y.undo();
        DUE.is("31 511 of NO", y.status(1), 511);
        TownPlayers z = crowded();
        for (int k = 0; k < 300; k++) z.window(1, 1);
        DUE.is("31 300 of FULL", z.status(2), 300);
        DUE.is("31 none of BAD", z.status(0), 0);
    }
}
