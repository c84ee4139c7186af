/** Promises 1 to 12: a new object, and a town built by calls or by a text. */
final class TownPromisesTest {
    private static final Due DUE = new Due("TownPromisesTest");

    private TownPromisesTest() {}

    public static void main(String[] args) {
        newObject();
        windows();
        ears();
        mill();
        put();
        putBad();
        player();
        playerRefused();
        offset();
        late();
        sound();
        soundInWind();
        type();
        clear();
        readTown();
        readTakesThePlace();
        readFaults();
        readFaultChangesNothing();
        DUE.end();
    }

    private static void newObject() {
        TownPlayers x = new TownPlayers();
        for (int what = 0; what <= 4; what++) DUE.is("1 new: count(" + what + ")", x.count(what), 0);
        for (int what = 0; what <= 2; what++) DUE.is("1 new: status(" + what + ")", x.status(what), 0);
        DUE.is("1 new: SLOW", x.put(0, 3), 3);
        DUE.is("1 new: WINDX", x.put(1, 0), 0);
        DUE.is("1 new: WINDY", x.put(2, 0), 0);
        DUE.is("1 new: CATCH", x.put(3, 0), 0);
        DUE.is("1 new: no image", x.from(0), TownPlayers.NO);
        long h = 677;
        int[] all = {0, 0, 0, 0, 0, -1, -1, 3, 0, 0, 0};
        for (int v : all) h = 31 * h + v;
        DUE.is("1 new: digest()", x.digest(), h);
        DUE.is("1 NONE", TownPlayers.NONE, -1);
        DUE.is("1 BAD", TownPlayers.BAD, -2);
        DUE.is("1 NO", TownPlayers.NO, -3);
        DUE.is("1 FULL", TownPlayers.FULL, -4);
    }

    private static void windows() {
        TownPlayers x = new TownPlayers();
        DUE.is("2 window(0, 99)", x.window(0, 99), 0);
        DUE.is("2 window(99, 0)", x.window(99, 0), 1);
        int[][] bad = {{-1, 0}, {0, -1}, {100, 0}, {0, 100}, {Integer.MIN_VALUE, 5}, {5, Integer.MAX_VALUE}};
        for (int[] p : bad) DUE.is("2 window beyond", x.window(p[0], p[1]), TownPlayers.BAD);
        DUE.is("2 count(0) behind BAD", x.count(0), 2);
        for (int k = 2; k < 6; k++) DUE.is("2 window " + k, x.window(k, k), k);
        DUE.is("2 a seventh window", x.window(1, 1), TownPlayers.FULL);
        DUE.is("2 BAD goes ahead of FULL", x.window(100, 1), TownPlayers.BAD);
        DUE.is("2 status(0)", x.status(0), 7);
        DUE.is("2 status(2)", x.status(2), 1);
        DUE.is("2 count(0)", x.count(0), 6);
    }

    private static void ears() {
        TownPlayers x = new TownPlayers();
        DUE.is("3 ear(0, 99)", x.ear(0, 99), 0);
        int[][] bad = {{-1, 0}, {0, -1}, {100, 0}, {0, 100}};
        for (int[] p : bad) DUE.is("3 ear beyond", x.ear(p[0], p[1]), TownPlayers.BAD);
        DUE.is("3 ear(99, 0)", x.ear(99, 0), 1);
        DUE.is("3 ear(5, 5)", x.ear(5, 5), 2);
        DUE.is("3 a fourth ear", x.ear(5, 5), TownPlayers.FULL);
        DUE.is("3 BAD goes ahead of FULL", x.ear(5, 100), TownPlayers.BAD);
        DUE.is("3 count(1)", x.count(1), 3);
        DUE.is("3 status(0)", x.status(0), 5);
        DUE.is("3 status(2)", x.status(2), 1);
    }

    private static void mill() {
        TownPlayers x = Due.town("window 10 10; ear 10 20; player 2 0 99;");
        DUE.is("4 no echo without a mill", x.heard(0, 0, -1), 1);
        DUE.is("4 mill(20, 10)", x.mill(20, 10), 1);
        DUE.is("4 an echo with one", x.heard(0, 0, 1), 90);
        DUE.is("4 mill(10, 20) takes its place", x.mill(10, 20), 1);
        DUE.is("4 the echo from there", x.heard(0, 0, 1), 30);
        int[][] bad = {{-1, 0}, {0, -1}, {100, 0}, {0, 100}};
        for (int[] p : bad) DUE.is("4 mill beyond", x.mill(p[0], p[1]), TownPlayers.BAD);
        DUE.is("4 the mill stays", x.heard(0, 0, 1), 30);
        DUE.is("4 status(0)", x.status(0), 4);
        DUE.is("4 mill(0, 0)", x.mill(0, 0), 1);
        DUE.is("4 mill(99, 99)", x.mill(99, 99), 1);
    }

    private static void put() {
        TownPlayers x = new TownPlayers();
        int[][] calls = {{0, 9, 3}, {0, 1, 9}, {1, -2, 0}, {1, 2, -2}, {2, 2, 0}, {2, -2, 2}, {3, 999, 0}, {3, 0, 999}};
        for (int[] c : calls) DUE.is("5 put(" + c[0] + ", " + c[1] + ")", x.put(c[0], c[1]), c[2]);
        DUE.is("5 SLOW is its own", x.put(0, 3), 1);
        DUE.is("5 WINDX is its own", x.put(1, 0), 2);
        DUE.is("5 WINDY is its own", x.put(2, 0), -2);
        DUE.is("5 CATCH is its own", x.put(3, 0), 0);
    }

    private static void putBad() {
        TownPlayers x = new TownPlayers();
        long was = x.digest();
        int[][] bad = {{0, 0}, {0, 10}, {1, -3}, {1, 3}, {2, -3}, {2, 3}, {3, -1}, {3, 1000}, {-1, 1}, {4, 1}};
        for (int[] c : bad) DUE.is("5 put(" + c[0] + ", " + c[1] + ")", x.put(c[0], c[1]), -10);
        DUE.is("5 nothing changes", x.digest(), was);
        DUE.is("5 status(0)", x.status(0), 10);
    }

    private static void player() {
        TownPlayers x = Due.town("window 1 1; window 2 2; window 3 3;");
        DUE.is("6 player(0, 2, 1)", x.player(0, 2, 1), 0);
        DUE.is("6 player(5, 0, 99)", x.player(5, 0, 99), 1);
        DUE.is("6 OFFSET at first", x.late(1, 0), 0);
        DUE.is("6 listens to itself at first", x.follow(1, 1), 1);
        DUE.is("6 a round", x.round(), 0);
        DUE.is("6 it may be undone", x.count(3), 1);
        DUE.is("6 player(4, 1, 50)", x.player(4, 1, 50), 2);
        DUE.is("6 no round may be undone then", x.count(3), 0);
        DUE.is("6 undo()", x.undo(), TownPlayers.NO);
        DUE.is("6 count(2)", x.count(2), 3);
    }

    private static void playerRefused() {
        TownPlayers x = Due.town("window 1 1; window 2 2; player 0 0 50;");
        x.round();
        int[][] bad = {{-1, 1, 50}, {6, 1, 50}, {0, -1, 50}, {0, 2, 50}, {0, 1, 0}, {0, 1, 100}, {0, 0, 50}};
        for (int[] c : bad) {
            DUE.is("6 player(" + c[0] + ", " + c[1] + ", " + c[2] + ")", x.player(c[0], c[1], c[2]), TownPlayers.BAD);
        }
        DUE.is("6 a refused one leaves the round", x.count(3), 1);
        DUE.is("6 status(0)", x.status(0), 7);
        DUE.is("6 count(2)", x.count(2), 1);
        TownPlayers full = Due.town("window 1 1; window 1 1; window 1 1; window 1 1; window 1 1; window 1 1;");
        for (int w = 0; w < 6; w++) DUE.is("6 player at " + w, full.player(0, w, 9), w);
        DUE.is("6 a seventh: each window has one, BAD ahead of FULL", full.player(0, 3, 9), TownPlayers.BAD);
        DUE.is("6 status(2)", full.status(2), 0);
    }

    private static void offset() {
        TownPlayers x = Due.town("window 1 1; player 0 0 50;");
        DUE.is("7 offset(0, 500)", x.offset(0, 500), 0);
        DUE.is("7 offset(0, -500)", x.offset(0, -500), 500);
        int[][] bad = {{0, 501}, {0, -501}, {1, 0}, {-1, 0}};
        for (int[] c : bad) DUE.is("7 offset(" + c[0] + ", " + c[1] + ")", x.offset(c[0], c[1]), -1000);
        DUE.is("7 it stays", x.late(0, 0), -500);
        DUE.is("7 status(0)", x.status(0), 4);
    }

    private static void late() {
        TownPlayers x = Due.town("window 1 1; window 1 1; window 1 1; window 1 1; window 1 1; window 1 1;"
                + "player 0 0 50; player 1 1 50; player 2 2 50; player 3 3 50; player 4 4 50; player 5 5 50;");
        int[][] lates = {{0, 0, -20, 0, 0, 0, 0}, {37, 37, 17, 37, 30, 37, 37}, {-37, -37, -57, -37, -30, -37, -37},
                {-9, -9, -29, -9, 0, -9, -9}, {500, 500, 480, 500, 500, 500, 500}, {-500, -500, -520, -500, -500, -500, -500}};
        for (int[] row : lates) {
            for (int p = 0; p < 6; p++) {
                x.offset(p, row[0]);
                DUE.is("8 late(" + p + ", 0) of " + row[0], x.late(p, 0), row[0]);
                DUE.is("8 late(" + p + ", 1) of " + row[0], x.late(p, 1), row[p + 1]);
            }
        }
        int[][] bad = {{6, 0}, {-1, 0}, {0, 2}, {0, -1}};
        for (int[] c : bad) DUE.is("8 late(" + c[0] + ", " + c[1] + ")", x.late(c[0], c[1]), -1000);
        DUE.is("8 status(0)", x.status(0), 4);
    }

    private static void sound() {
        TownPlayers x = Due.town("window 10 10; window 20 10; ear 10 20; ear 30 10;");
        DUE.is("9 sound(0, 0)", x.sound(0, 0), 30);
        DUE.is("9 sound(1, 0)", x.sound(1, 0), 60);
        DUE.is("9 sound(0, 1)", x.sound(0, 1), 60);
        x.put(0, 9);
        DUE.is("9 sound(1, 1) at SLOW 9", x.sound(1, 1), 90);
        int[][] bad = {{2, 0}, {-1, 0}, {0, 2}, {0, -1}};
        for (int[] c : bad) DUE.is("9 sound(" + c[0] + ", " + c[1] + ")", x.sound(c[0], c[1]), TownPlayers.BAD);
        DUE.is("9 status(0)", x.status(0), 4);
        TownPlayers far = Due.town("window 0 0; ear 99 99; slow 9;");
        DUE.is("9 from corner to corner", far.sound(0, 0), 1782);
    }

    private static void soundInWind() {
        TownPlayers x = Due.town("window 10 10; window 20 10; ear 10 20; ear 30 10;");
        x.put(1, 1);
        DUE.is("9 WINDX 1: the EAR's x is 10 less", x.sound(1, 0), 70);
        DUE.is("9 WINDX 1: the EAR's x is 20 more", x.sound(0, 1), 40);
        x.put(1, -2);
        DUE.is("9 WINDX -2", x.sound(0, 1), 100);
        x.put(1, 0);
        x.put(2, 2);
        DUE.is("9 WINDY 2: the EAR's y is 10 more", x.sound(0, 0), 10);
        x.put(0, 1);
        DUE.is("9 less than 0 is 0", x.sound(0, 0), 0);
        x.put(2, -2);
        DUE.is("9 WINDY -2", x.sound(0, 0), 30);
        x.put(1, 2);
        DUE.is("9 both winds", x.sound(1, 0), 60);
    }

    private static void type() {
        TownPlayers x = new TownPlayers();
        DUE.is("10 n 0", x.type(5, 0), TownPlayers.BAD);
        DUE.is("10 n 9", x.type(5, 9), TownPlayers.BAD);
        DUE.is("10 n -1", x.type(5, -1), TownPlayers.BAD);
        DUE.is("10 one byte of many", x.type(0x7777777777777773L, 1), 1);
        DUE.is("10 four bytes, the highest first", x.type(0x11111111_6c6f7720L, 4), 5);
        DUE.is("10 two more", x.type('4' << 8 | ';', 2), 7);
        DUE.is("10 the text was 'slow 4;'", x.read(), 1);
        DUE.is("10 SLOW", x.put(0, 4), 4);
        for (int k = 0; k < 30; k++) x.type(0x2020202020202020L, 8);
        DUE.is("10 247 bytes", x.count(4), 247);
        DUE.is("10 four more are too many", x.type(0, 4), TownPlayers.FULL);
        DUE.is("10 nothing of them came", x.count(4), 247);
        DUE.is("10 BAD goes ahead of FULL", x.type(0, 9), TownPlayers.BAD);
        DUE.is("10 three more", x.type(0x202020L, 3), 250);
        DUE.is("10 one more", x.type(0x20L, 1), TownPlayers.FULL);
        DUE.is("10 status(0)", x.status(0), 4);
        DUE.is("10 status(2)", x.status(2), 2);
        DUE.is("10 it is still read", x.read(), 1);
    }

    private static void clear() {
        TownPlayers x = new TownPlayers();
        DUE.is("11 an empty one", x.clear(), 0);
        x.type(0x3b3b3bL, 3);
        DUE.is("11 clear()", x.clear(), 3);
        DUE.is("11 count(4)", x.count(4), 0);
        DUE.is("11 read() of it", x.read(), 0);
    }

    private static void readTown() {
        TownPlayers x = new TownPlayers();
        DUE.is("12 read", Due.read(x, "window 1 2;window3 4; ear 5 06;mill 007 8 ;slow9 ;player 5 1 9;player 0 0 99;"
                + "offset 0-5;offset 1 500;"), 9);
        long h = 677;
        int[] all = {2, 1, 2, 0, 100, 1, 2, 3, 4, 5, 6, 7, 8, 9, 0, 0, 0, 5, 1, 9, -5, 0, 0, 0, 99, 500, 1};
        all[4] = x.count(4);
        for (int v : all) h = 31 * h + v;
        DUE.is("12 digest()", x.digest(), h);
        DUE.is("12 told twice: the latter", Due.read(x, "slow 2; slow 7; mill 1 1; mill 2 2; window 0 0; player 0 0 9; "
                + "offset 0 4; offset 0 - 0;"), 8);
        DUE.is("12 SLOW", x.put(0, 1), 7);
        DUE.is("12 OFFSET", x.late(0, 0), 0);
        DUE.is("12 blanks alone", Due.read(x, "   "), 0);
        DUE.is("12 no window then", x.count(0), 0);
        DUE.is("12 a mill at 0, 0", Due.read(x, "mill 0 0; window 0 1; ear 0 0; player 2 0 9;"), 4);
        DUE.is("12 its echo is heard", x.heard(0, 0, -1), 2);
        DUE.is("12 nothing", Due.read(x, ""), 0);
    }

    private static void readTakesThePlace() {
        TownPlayers x = Due.town("window 1 1; window 9 9; ear 5 5; mill 3 3; slow 5; player 0 1 9; player 0 0 9; offset 0 7;");
        x.put(1, 2);
        x.put(2, -1);
        x.put(3, 44);
        x.follow(0, 1);
        x.round();
        x.settles();
        x.image(1);
        long was = x.digest();
        x.ear(100, 100);
        DUE.is("12 read", Due.read(x, "window 4 4; window 6 6; player 1 0 3; player 1 1 3;"), 4);
        DUE.is("12 no ears", x.count(1), 0);
        DUE.is("12 no round to undo", x.undo(), TownPlayers.NO);
        DUE.is("12 SLOW as at first", x.put(0, 3), 3);
        DUE.is("12 CATCH as at first", x.put(3, 0), 0);
        DUE.is("12 WINDX stays", x.put(1, 2), 2);
        DUE.is("12 WINDY stays", x.put(2, -1), -1);
        DUE.is("12 listens to itself", x.follow(0, 0), 0);
        DUE.is("12 OFFSET as at first", x.late(0, 0), 0);
        x.ear(4, 5);
        x.put(1, 0);
        Due.read(x, "mill 9 9;");
        DUE.is("12 no mill", Due.read(x, "window 4 4; ear 4 4; player 2 0 99;"), 3);
        DUE.is("12 heard once", x.heard(0, 0, -1), 1);
        long h = 677;
        int[] all = {1, 1, 1, 0, 35, 4, 4, 4, 4, -1, -1, 3, 0, -1, 0, 2, 0, 99, 0, 0};
        for (int v : all) h = 31 * h + v;
        DUE.is("12 digest() of it", x.digest(), h);
        DUE.is("12 STATUS stays", x.status(0), 1);
        DUE.is("12 THE TEXT stays", x.count(4), 35);
        x.clear();
        Due.type(x, "window 1 1; window 9 9; ear 5 5; mill 3 3; slow 5; player 0 1 9; player 0 0 9; offset 0 7;");
        DUE.is("12 the image stays", x.from(1), 1);
        DUE.is("12 as it was kept", x.digest(), was);
    }

    private static void readFaults() {
        String sixWindows = "window 1 1;window 1 1;window 1 1;window 1 1;window 1 1;window 1 1;";
        String sixPlayers = sixWindows + "player 0 0 1;player 0 1 1;player 0 2 1;player 0 3 1;player 0 4 1;player 0 5 1;";
        fault("", "^windows 1 1;");
        fault("", "^xindow 1 1;");
        fault("", "^windowz 1 1;");
        fault("", "^z;");
        fault("", "window 1 1 ^-");
        fault("", "^Window 1 1;");
        fault("", "  ^;");
        fault("", "^12;");
        fault("", "^-;");
        fault("", "window 1 1; ^;");
        fault("", "window 1 1 ^2;");
        fault("", "window ^100 1;");
        fault("", "window 99 ^0001;");
        fault("", "window 99 ^00000000000000000000000001;");
        fault("", "window 1 ^- 1;");
        fault("", "window 1 ^ear 1;");
        fault("", "window 1 1^");
        fault("", "window 1 1   ^");
        fault("", "window^");
        fault("", "window 1 1; ^\t");
        fault("", "window^\u00ff 1 1;");
        fault("", "window 1 1^.");
        fault("", "ear 1 1; ear 2 2; ear 3 3; ^ear");
        fault("", "ear 1 ^100;");
        fault("", "ear ^100 1;");
        fault("", "mill 99 ^100;");
        fault("", "mill ^;");
        fault("", "slow ^0;");
        fault("", "slow ^10;");
        fault("", "slow 9 ^9;");
        fault(sixWindows, "^window 1 1;");
        fault(sixWindows, "player ^6 0 1;");
        fault(sixWindows, "player 0 ^6 1;");
        fault(sixWindows, "player 0 0 ^0;");
        fault(sixWindows, "player 0 0 ^100;");
        fault(sixWindows, "player 0 0 9; player 0 ^0 9;");
        fault("", "window 1 1; player 0 ^1 1; window 1 1;");
        fault(sixPlayers, "^player 0 0 1;");
        fault(sixPlayers, "offset ^6 1;");
        fault(sixPlayers, "offset 5 ^501;");
        fault(sixPlayers, "offset 5 - ^501;");
        fault(sixPlayers, "offset 5 - ^- 1;");
        fault(sixPlayers, "offset 5 -^;");
        fault(sixPlayers, "offset ^- 1 5;");
        fault(sixPlayers, "offset 5 ^; 5;");
        fault("", "window 1 1; offset ^0 1;");
        TownPlayers x = new TownPlayers();
        StringBuilder figures = new StringBuilder("window ");
        while (figures.length() < 250) figures.append('9');
        DUE.is("12 figures to the text's end", Due.read(x, figures.toString()), -17);
        DUE.is("12 the last of 250 bytes", Due.read(x, "slow 1; ".repeat(30) + "  slow   9"), -10 - 250);
        DUE.is("12 a word to the end of 250 bytes", Due.read(x, "slow 1; ".repeat(31) + "ea"), -10 - 248);
        DUE.is("12 'slow' is read", Due.read(x, "slow"), -10 - 4);
        DUE.is("12 'slo' has no more of the text that was", Due.read(x, "slo"), -10);
        DUE.is("12 31 items", Due.read(x, "slow 1; ".repeat(30) + "   slow 9;"), 31);
    }

    /** The mark tells the place of the fault and is no part of the text. */
    private static void fault(String ahead, String marked) {
        String text = ahead + marked.replace("^", "");
        DUE.is("12 fault in '" + text + "'", Due.read(new TownPlayers(), text), -10 - ahead.length() - marked.indexOf('^'));
    }

    private static void readFaultChangesNothing() {
        TownPlayers x = Due.town("window 1 1; ear 2 2; mill 3 3; slow 5; player 0 0 9; offset 0 7;");
        x.put(3, 9);
        x.round();
        x.clear();
        Due.type(x, "window 5 5; window 6 6; mill 9 9; player 1 1 5; offset 0 5; slow 1");
        long was = x.digest();
        DUE.is("12 a fault", x.read(), -10 - 66);
        DUE.is("12 all stays", x.digest(), was);
        for (int what = 0; what <= 2; what++) DUE.is("12 status(" + what + ")", x.status(what), 0);
        Due.type(x, ";");
        DUE.is("12 ended at last", x.read(), 6);
    }
}
