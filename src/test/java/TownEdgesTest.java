import java.util.ArrayList;
import java.util.Arrays;
import java.util.List;

/** Promises 1 to 12, each sentence that names a boundary by itself; what is refused is in RefusedTest. */
final class TownEdgesTest {
    private static final Due DUE = new Due("TownEdgesTest");
    private static final int NONE = TownPlayers.NONE;
    private static final String SIX_WINDOWS = "window 0 0;window 0 0;window 0 0;window 0 0;window 0 0;window 0 0;";
    private static final String SIX_PLAYERS = SIX_WINDOWS
            + "player 0 0 1;player 0 1 1;player 0 2 1;player 0 3 1;player 0 4 1;player 0 5 1;";

    private TownEdgesTest() {}

    public static void main(String[] args) {
        nothingIsThere();
        objectsAreApart();
        placesAtTheirEdges();
        millThereOrNot();
        putWhatItWas();
        playersAtTheirEdges();
        roundsEndWithAPlayer();
        lateOfEachKind();
        soundSigns();
        soundNotBelowNought();
        soundAtMost();
        typeBytes();
        typeToTheEnd();
        clearEmptyAndFull();
        readEmpty();
        readItems();
        readBlanks();
        readNumbers();
        readSigns();
        readTooEarly();
        readNotThereYet();
        readMoreThanTold();
        readFirstFault();
        readWholeText();
        readAsAtFirst();
        readLeaves();
        DUE.end();
    }

    private static long sum(int... all) {
        long h = 677;
        for (int v : all) h = 31 * h + v;
        return h;
    }

    // ---- 1 to 5

    /** "As told; no WINDOWS, no EARS." */
    private static void nothingIsThere() {
        TownPlayers x = new TownPlayers();
        DUE.is("1 together(0)", x.together(0), 1);
        DUE.is("1 tuned(0, NONE)", x.tuned(0, NONE), 1);
        DUE.is("1 clash(0)", x.clash(0), NONE);
        DUE.is("1 leftOut(0)", x.leftOut(0), 0);
        DUE.is("1 settles()", x.settles(), 0);
        DUE.is("1 nextEar(0)", x.nextEar(0), NONE);
        DUE.is("1 drawn(0)", x.drawn(0), 5);
        DUE.is("1 clear()", x.clear(), 0);
        DUE.is("1 read()", x.read(), 0);
        DUE.is("1 digest()", x.digest(), sum(0, 0, 0, 0, 0, -1, -1, 3, 0, 0, 0));
        DUE.is("1 round()", x.round(), 0);
        DUE.is("1 count(3)", x.count(3), 1);
        DUE.is("1 undo()", x.undo(), 1);
        for (int r = 0; r < 3; r++) DUE.is("1 status(" + r + ")", x.status(r), 0);
    }

    private static void objectsAreApart() {
        TownPlayers x = Due.town(SIX_PLAYERS + "ear 1 1;mill 2 2;slow 9;");
        x.put(1, 2);
        x.put(3, 9);
        x.round();
        x.image(0);
        x.undo();
        x.undo();
        TownPlayers y = new TownPlayers();
        DUE.is("1 another new one: digest()", y.digest(), sum(0, 0, 0, 0, 0, -1, -1, 3, 0, 0, 0));
        DUE.is("1 another new one: from(0)", y.from(0), TownPlayers.NO);
        DUE.is("1 another new one: status(1)", y.status(1), 1);
        DUE.is("1 another new one: window()", y.window(4, 5), 0);
        DUE.is("1 the first one stays", x.count(0), 6);
    }

    /** "PLACES x, y (0 .. 99 each). WINDOWS 0 .. 5, EARS 0 .. 2, as they come, each at a PLACE." */
    private static void placesAtTheirEdges() {
        int[][] places = {{0, 0}, {99, 99}, {0, 99}, {99, 0}, {0, 0}, {50, 1}};
        TownPlayers x = new TownPlayers();
        for (int k = 0; k < 6; k++) DUE.is("2 window " + k, x.window(places[k][0], places[k][1]), k);
        DUE.is("2 the seventh", x.window(0, 0), TownPlayers.FULL);
        for (int k = 0; k < 3; k++) DUE.is("3 ear " + k, x.ear(places[k + 2][0], places[k + 2][1]), k);
        DUE.is("3 the fourth", x.ear(0, 0), TownPlayers.FULL);
        DUE.is("2, 3 where they are", x.digest(), sum(6, 3, 0, 0, 0, 0, 0, 99, 99, 0, 99, 99, 0, 0, 0, 50, 1,
                0, 99, 99, 0, 0, 0, -1, -1, 3, 0, 0, 0));
        TownPlayers y = new TownPlayers();
        y.ear(3, 8);
        y.mill(8, 3);
        DUE.is("3, 4 x, then y", y.digest(), sum(0, 1, 0, 0, 0, 3, 8, 8, 3, 3, 0, 0, 0));
        for (int[] p : places) {
            DUE.is("4 mill", y.mill(p[0], p[1]), 1);
            DUE.is("4 where it is", y.digest(), sum(0, 1, 0, 0, 0, 3, 8, p[0], p[1], 3, 0, 0, 0));
        }
    }

    /** "THE MILL is at a PLACE (or there is none, at first)"; "its ECHO is heard, too (if there is THE MILL)". */
    private static void millThereOrNot() {
        TownPlayers x = Due.town("window 0 0; ear 0 0; player 2 0 9;");
        DUE.is("4 none at first", x.heard(0, 0, NONE), 1);
        x.mill(0, 0);
        DUE.is("4 one at 0, 0 is one", x.heard(0, 0, NONE), 2);
        x.mill(99, 99);
        DUE.is("4 one too far off is not heard", x.heard(0, 0, NONE), 1);
        x.mill(0, 3);
        DUE.is("4 half of 9 is 4, and six paces are more", x.heard(0, 0, NONE), 1);
        x.mill(1, 0);
        DUE.is("4 half of 9 is 4, and two paces are less", x.loud(0, 1), 2);
        DUE.is("4 both ways times SLOW", x.heard(0, 0, 1), 6);
    }

    /** "SLOW (0; 1 .. 9), WINDX (1), WINDY (2; -2 .. 2), CATCH (3; 0 .. 999): what it was"; "3 at first", "0 at first". */
    private static void putWhatItWas() {
        int[] first = {3, 0, 0, 0}, low = {1, -2, -2, 0}, high = {9, 2, 2, 999};
        for (int what = 0; what < 4; what++) {
            TownPlayers x = new TownPlayers();
            int was = first[what];
            for (int v : new int[] {high[what], low[what], low[what], high[what]}) {
                DUE.is("5 put(" + what + ", " + v + ")", x.put(what, v), was);
                was = v;
                int[] all = {0, 0, 0, 0, 0, -1, -1, 3, 0, 0, 0};
                all[7 + what] = v;
                DUE.is("5 put(" + what + ", " + v + ") puts that alone", x.digest(), sum(all));
            }
        }
    }

    // ---- 6 to 9

    /** "PLAYERS 0 .. 5, as they come: a KIND, a WINDOW, LOUD (1 .. 99), OFFSET (0 at first)". */
    private static void playersAtTheirEdges() {
        TownPlayers x = Due.town(SIX_WINDOWS);
        int[][] players = {{5, 5, 1}, {0, 0, 99}, {4, 3, 1}, {1, 1, 99}, {3, 4, 50}, {2, 2, 98}};
        List<Integer> told = new ArrayList<>(List.of(6, 0, 6, 0, SIX_WINDOWS.length(), 0, 0, 0, 0, 0, 0, 0, 0, 0, 0, 0, 0, -1, -1, 3, 0, 0, 0));
        for (int p = 0; p < 6; p++) {
            DUE.is("6 player " + p, x.player(players[p][0], players[p][1], players[p][2]), p);
            told.addAll(List.of(players[p][0], players[p][1], players[p][2], 0, p));
        }
        DUE.is("6 as they came", x.digest(), sum(told.stream().mapToInt(v -> v).toArray()));
        for (int v : new int[] {-500, 500, 0}) {
            for (int p = 0; p < 6; p++) x.offset(p, v);
            for (int p = 0; p < 6; p++) DUE.is("7 OFFSET " + v + " of " + p, x.late(p, 0), v);
        }
    }

    /** "no ROUND may be undone then". */
    private static void roundsEndWithAPlayer() {
        TownPlayers x = Due.town("window 1 1; window 5 5; window 9 9; player 0 0 9;");
        for (int k = 0; k < 9; k++) x.round();
        DUE.is("6 eight may be undone", x.count(3), 8);
        x.player(0, 1, 9);
        DUE.is("6 none behind a PLAYER", x.count(3), 0);
        DUE.is("6 undo()", x.undo(), TownPlayers.NO);
        x.round();
        x.player(0, 1, 9);
        DUE.is("6 a refused one leaves them", x.count(3), 1);
        x.window(3, 3);
        x.ear(3, 3);
        x.mill(3, 3);
        x.put(0, 1);
        x.offset(0, 1);
        x.follow(0, 1);
        DUE.is("6 nothing else ends them", x.count(3), 1);
    }

    /** "0 PLAIN: LATE is OFFSET. 1 EARLY: 20 less. 3 BYEYE: OFFSET is cut to tens toward 0"; others as PLAIN. */
    private static void lateOfEachKind() {
        TownPlayers x = Due.town(SIX_WINDOWS + "player 0 0 9;player 1 1 9;player 2 2 9;player 3 3 9;player 4 4 9;player 5 5 9;");
        int[] tens = {0, 0, 1, 0, -1, 0, 9, 0, -9, 0, 10, 10, -10, -10, 11, 10, -11, -10, 19, 10, -19, -10, 20, 20, -20, -20,
            491, 490, 499, 490, -499, -490, 500, 500, -500, -500};
        for (int k = 0; k < tens.length; k += 2) {
            int v = tens[k];
            int[] due = {v, v - 20, v, tens[k + 1], v, v};
            for (int p = 0; p < 6; p++) {
                x.offset(p, v);
                DUE.is("8 OFFSET of KIND " + p, x.late(p, 0), v);
                DUE.is("8 LATE of KIND " + p + " at OFFSET " + v, x.late(p, 1), due[p]);
            }
        }
    }

    /** "WIND by x times how far the EAR's x is less than the WINDOW's (its sign counts), by y likewise". */
    private static void soundSigns() {
        TownPlayers x = Due.town("window 50 50; window 50 50; window 50 50; ear 40 50; ear 60 50; ear 50 40;");
        int[][] due = {{0, 0, 30, 30, 30}, {1, 0, 40, 20, 30}, {2, 0, 50, 10, 30}, {-1, 0, 20, 40, 30}, {-2, 0, 10, 50, 30},
            {0, 1, 30, 30, 40}, {0, 2, 30, 30, 50}, {0, -1, 30, 30, 20}, {0, -2, 30, 30, 10}};
        for (int[] d : due) {
            x.put(1, d[0]);
            x.put(2, d[1]);
            for (int e = 0; e < 3; e++) DUE.is("9 WIND " + d[0] + ", " + d[1] + " to ear " + e, x.sound(2, e), d[2 + e]);
        }
        TownPlayers y = Due.town("window 50 50; ear 40 70; ear 55 20;");
        y.put(1, 2);
        y.put(2, -1);
        DUE.is("9 both: 30 paces, 2 * 10 and -1 * -20", y.sound(0, 0), 90 + 20 + 20);
        DUE.is("9 both: 35 paces, 2 * -5 and -1 * 30", y.sound(0, 1), 105 - 10 - 30);
    }

    /** "less than 0 is 0". */
    private static void soundNotBelowNought() {
        TownPlayers x = Due.town("window 10 10; window 10 12; ear 20 10; slow 1;");
        x.put(1, -1);
        DUE.is("9 with the wind behind it turned", x.sound(0, 0), 20);
        x.put(1, 1);
        DUE.is("9 0 itself", x.sound(0, 0), 0);
        DUE.is("9 two more than 0", x.sound(1, 0), 2);
        x.put(1, 2);
        DUE.is("9 10 less than 0 is 0", x.sound(0, 0), 0);
        DUE.is("9 8 less than 0 is 0", x.sound(1, 0), 0);
        x.put(0, 2);
        DUE.is("9 SLOW 2: 0 itself", x.sound(0, 0), 0);
        x.put(0, 3);
        DUE.is("9 SLOW 3: more", x.sound(0, 0), 10);
        DUE.is("9 at one place", Due.town("window 9 9; ear 9 9; slow 9;").sound(0, 0), 0);
    }

    private static void soundAtMost() {
        TownPlayers x = Due.town("window 99 99; window 0 0; ear 0 0; ear 99 99; slow 9;");
        x.put(1, 2);
        x.put(2, 2);
        DUE.is("9 from corner to corner against the wind", x.sound(0, 0), 198 * 9 + 198 * 2);
        DUE.is("9 from corner to corner with it", x.sound(1, 1), 198 * 9 - 198 * 2);
        x.put(0, 1);
        DUE.is("9 less than 0 by far", x.sound(1, 1), 0);
    }

    // ---- 10, 11

    /** "The lowest n (1 .. 8) bytes of v, the highest of them first". */
    private static void typeBytes() {
        String text = "slow 5; ";
        for (int n = 1; n <= 8; n++) {
            TownPlayers x = new TownPlayers();
            long v = -1;
            for (int k = 8 - n; k < 8; k++) v = v << 8 | text.charAt(k);
            for (int k = 0; k < 8 - n; k++) DUE.is("10 byte by byte", x.type(text.charAt(k), 1), k + 1);
            DUE.is("10 the lowest " + n + " of them", x.type(v, n), 8);
            DUE.is("10 they are read", x.read(), 1);
            DUE.is("10 SLOW", x.put(0, 3), 5);
        }
        long[] wild = {Long.MIN_VALUE, Long.MAX_VALUE, -1, 0};
        for (long v : wild) {
            TownPlayers x = new TownPlayers();
            DUE.is("10 type(" + v + ", 8)", x.type(v, 8), 8);
            DUE.is("10 bytes that begin no TOKEN", x.read(), -10);
        }
        TownPlayers x = new TownPlayers();
        x.type(0x736c6f7720393b80L, 8);
        DUE.is("10 the last byte is of the lowest eight bits", x.read(), -10 - 7);
    }

    /** "THE TOWN is a TEXT (250 bytes at most)". */
    private static void typeToTheEnd() {
        for (int n = 1; n <= 8; n++) {
            TownPlayers x = new TownPlayers();
            Due.type(x, " ".repeat(250 - n));
            DUE.is("10 to 250 by " + n, x.type(0x2020202020202020L, n), 250);
            DUE.is("10 not to 251", x.type(0x20, 1), TownPlayers.FULL);
            DUE.is("32 250 bytes", x.count(4), 250);
            DUE.is("10 250 blanks are read", x.read(), 0);
        }
    }

    private static void clearEmptyAndFull() {
        TownPlayers x = new TownPlayers();
        DUE.is("11 of an empty one", x.clear(), 0);
        Due.type(x, "slow 5;".repeat(35) + "     ");
        DUE.is("11 of a full one", x.clear(), 250);
        DUE.is("11 it is empty", x.count(4), 0);
        DUE.is("11 once more", x.clear(), 0);
        DUE.is("11 it takes 250 again", x.type(59, 8), 8);
        DUE.is("11 what was in it is gone", x.read(), -10);
        x.clear();
        x.type('s', 1);
        DUE.is("11 a word's beginning is not ended by what was", x.read(), -10);
    }

    // ---- 12

    private static void items(String text, int items) {
        DUE.is("12 items of '" + text + "'", Due.read(new TownPlayers(), text), items);
    }

    /** The mark tells the place of the fault and is no part of the text. */
    private static void fault(String ahead, String marked) {
        String text = ahead + marked.replace("^", "");
        DUE.is("12 FAULT of '" + text + "'", Due.read(new TownPlayers(), text), -10 - ahead.length() - marked.indexOf('^'));
    }

    /** "an empty one, one of blanks alone: none": no ITEM, and the town is as told, with nothing. */
    private static void readEmpty() {
        for (String text : new String[] {"", " ", "  ", " ".repeat(250)}) {
            TownPlayers x = Due.town(SIX_PLAYERS + "ear 1 1;mill 2 2;slow 9;");
            for (int k = 0; k < 3; k++) x.round();
            x.settles();
            DUE.is("12 " + text.length() + " blanks", Due.read(x, text), 0);
            DUE.is("12 nothing is there then", x.digest(), sum(0, 0, 0, 0, text.length(), -1, -1, 3, 0, 0, 0));
            DUE.is("12 nothing may be undone then", x.undo(), TownPlayers.NO);
        }
    }

    /** Each ITEM by itself, in its shortest form and with blanks, and in any order that has what it needs. */
    private static void readItems() {
        items("window 0 0;", 1);
        items("ear 99 99;", 1);
        items("mill 0 99;", 1);
        items("slow 1;", 1);
        items("window 0 0;player 5 0 99;", 2);
        items("window 0 0;player 0 0 1;offset 0 500;", 3);
        items("window 0 0;player 0 0 1;offset 0-500;", 3);
        items("offset 0 5;", -10 - 7);
        items("mill 1 1;mill 2 2;mill 3 3;mill 4 4;mill 5 5;mill 6 6;mill 7 7;", 7);
        items("slow 5;slow 6;slow 7;slow 8;", 4);
        items(SIX_PLAYERS + "ear 0 0;ear 0 0;ear 0 0;", 15);
        TownPlayers x = Due.town("slow 2;ear 1 2;window 3 4;player 0 0 5;window 6 7;offset 0 8;ear 9 10;player 1 1 11;"
                + "slow 4;mill 12 13;offset 1 - 14;offset 0 - 15;");
        DUE.is("12 in any order, the latter of two", x.digest(), sum(2, 2, 2, 0, x.count(4), 3, 4, 6, 7, 1, 2, 9, 10, 12, 13, 4, 0, 0, 0,
                0, 0, 5, -15, 0, 1, 1, 11, -14, 1));
    }

    /** "blanks (32), any number, ahead of, between and behind TOKENS (needed only between two words, two numbers)". */
    private static void readBlanks() {
        items("window1 2;ear3 4;mill5 6;slow7;player0 0 8;offset0-9;", 6);
        items("   window   1   2   ;   ear 3   4;mill   5 6   ;   slow   7;player   0   0   8;offset   0   -   9   ;   ", 6);
        fault("", "window 12^;");
        fault("", "window12^;");
        fault("", "^windowear 1 1;");
        fault("", "^win dow 1 1;");
        fault("", "window 1 1 ^window 2 2;");
        fault("", "slow 1 ^0;");
        fault("", "slow ^10;");
        for (char c : new char[] {0, 9, 10, 13, 31, 33, 127, 128, 160, 255}) {
            fault("slow 5;", "^" + c + "slow 5;");
            fault("slow", "^" + c + "5;");
            fault("slow 5", "^" + c + ";");
        }
    }

    /** "figures (1 to 3 are one number)"; "a run of four figures or more (at its first one), a number not as told". */
    private static void readNumbers() {
        items("window 0 99;window 00 099;window 000 09;", 3);
        fault("", "window ^0000 1;");
        fault("", "window 1 ^0001;");
        fault("", "window 1 ^1234567890;");
        fault("", "^1;");
        fault("", "^1234;");
        fault("", "window ^100 0;");
        fault("", "window 0 ^100;");
        fault("", "window 0 ^999;");
        fault("", "ear ^100 0;");
        fault("", "ear 0 ^100;");
        fault("", "mill ^100 0;");
        fault("", "mill 0 ^100;");
        items("slow 1;slow 9;slow 009;", 3);
        fault("", "slow ^0;");
        fault("", "slow ^000;");
        fault("", "slow ^10;");
        fault("", "slow ^0001;");
        items(SIX_WINDOWS + "player 0 5 1;player 5 0 99;player 005 001 001;", 9);
        fault("window 1 1;", "player ^6 0 1;");
        fault("window 1 1;", "player 5 0 ^0;");
        fault("window 1 1;", "player 5 0 ^100;");
        items(SIX_PLAYERS + "offset 0 0;offset 5 500;offset 5-500;offset 5 - 0;offset 05 - 001;", 17);
        fault(SIX_PLAYERS, "offset 0 ^501;");
        fault(SIX_PLAYERS, "offset 0 ^999;");
        fault(SIX_PLAYERS, "offset 0 - ^501;");
        fault(SIX_PLAYERS, "offset 0 - ^0500;");
        fault(SIX_PLAYERS, "offset ^6 1;");
    }

    /** "words of letters a .. z", "a word that is none", "a byte that begins none", "-", ";". */
    private static void readSigns() {
        for (String word : new String[] {"a", "z", "windo", "windows", "owindow", "ears", "ea", "mil", "mills", "slo", "slower", "players",
            "playe", "offsets", "offse", "plain", "wind", "text", "image"}) {
            fault("slow 1;", "^" + word + " 1 1;");
            fault("slow 1;", "^" + word);
        }
        for (char c : new char[] {'`', '{', '/', ':', '@', 'A', 'Z', '[', '.', ',', '+', '_', '\'', '"', '(', 223, 233}) {
            fault("slow 1;", "^" + c);
            fault("slow", "^" + c + "1;");
            fault("slow 1", "^" + c + ";");
        }
        fault("", "^Slow 1;");
        fault("", "^;");
        fault("", "^-;");
        fault("slow 1;", "^;");
        fault("slow 1;", "^- 1;");
        fault("", "slow ^- 1;");
        fault("", "slow ^;");
        fault("", "slow ^slow;");
        fault("", "slow 1 ^-;");
        fault("", "slow 1 ^slow");
        fault("", "slow 1 ^1;");
        fault(SIX_PLAYERS, "offset ^- 0 1;");
        fault(SIX_PLAYERS, "offset 0 - ^- 1;");
        fault(SIX_PLAYERS, "offset 0 1 ^- 1;");
        fault(SIX_PLAYERS, "offset 0 - 1 ^-;");
        fault(SIX_PLAYERS, "offset 0 - ^;");
        fault(SIX_PLAYERS, "offset 0 - 1 ^1;");
        fault(SIX_PLAYERS, "offset 0 ^;");
        fault(SIX_PLAYERS, "offset ^;");
        fault(SIX_PLAYERS, "offset 0 ^mill;");
        fault(SIX_WINDOWS, "player ^- 0 0 1;");
        fault(SIX_WINDOWS, "player ^plain 0 1;");
        fault(SIX_WINDOWS, "player 0 ^;");
        fault(SIX_WINDOWS, "player 0 0 ^;");
        fault(SIX_WINDOWS, "player 0 0 1 ^1;");
    }

    /** "the TEXT's length, if it ends too early". */
    private static void readTooEarly() {
        String[][] items = {{"window", "1", "1", ";"}, {"ear", "1", "1", ";"}, {"mill", "1", "1", ";"}, {"slow", "1", ";"},
            {"player", "0", "0", "1", ";"}, {"offset", "0", "5", ";"}, {"offset", "0", "-", "5", ";"}};
        String[] ahead = {"", "", "", "", "window 1 1;", "window 1 1;player 0 0 9;", "window 1 1;player 0 0 9;"};
        for (int k = 0; k < items.length; k++) {
            for (int many = 1; many <= items[k].length; many++) {
                String told = ahead[k] + String.join(" ", Arrays.copyOf(items[k], many));
                for (String blanks : new String[] {"", " ", "    "}) {
                    if (many < items[k].length) fault(told, blanks + "^");
                    else DUE.is("12 '" + told + "' is whole", Due.read(new TownPlayers(), told + blanks) > 0 ? 1 : 0, 1);
                }
            }
        }
        fault("slow 5;".repeat(35), "slow5^");
        fault("slow 5;".repeat(35), "slow ^");
        fault("slow 5;".repeat(35), "slow^");
    }

    /** "also a WINDOW, a PLAYER that is not there yet, a WINDOW that has one". */
    private static void readNotThereYet() {
        fault("", "player 0 ^0 1;");
        fault("", "player 0 ^0 1;window 1 1;");
        fault("window 1 1;", "player 0 ^1 1;window 1 1;");
        fault("window 1 1;window 1 1;", "player 0 ^2 1;");
        fault(SIX_WINDOWS, "player 0 ^6 1;");
        fault(SIX_WINDOWS, "player 0 5 1;player 0 ^5 1;");
        fault(SIX_WINDOWS, "player 0 0 1;player 0 5 1;player 0 ^0 1;");
        fault("window 1 1;", "player 0 0 1;player 0 ^0 1;");
        fault("window 1 1;", "offset ^0 1;player 0 0 1;");
        fault("window 1 1;player 0 0 1;", "offset ^1 1;");
        fault("window 1 1;player 0 0 1;", "offset ^1 - 1;");
        fault(SIX_PLAYERS, "offset ^6 1;");
        // What was there ahead is not there for a TEXT.
        TownPlayers x = Due.town("window 1 1;player 0 0 1;");
        DUE.is("12 a WINDOW of the town that was", Due.read(x, "player 0 0 1;"), -10 - 9);
        DUE.is("12 a PLAYER of the town that was", Due.read(x, "offset 0 1;"), -10 - 7);
    }

    /** "more WINDOWS, EARS, PLAYERS than told (at the word)". */
    private static void readMoreThanTold() {
        items(SIX_WINDOWS, 6);
        items(SIX_PLAYERS, 12);
        fault(SIX_WINDOWS, "^window 1 1;");
        fault(SIX_WINDOWS, "^window");
        fault(SIX_WINDOWS, "  ^window 100;");
        items("ear 1 1;ear 1 1;ear 1 1;", 3);
        fault("ear 1 1;ear 1 1;ear 1 1;", "^ear 1 1;");
        fault("ear 1 1;ear 1 1;ear 1 1;", " ^ear");
        fault(SIX_PLAYERS, "^player 0 0 1;");
        fault(SIX_PLAYERS, "^player");
        fault(SIX_PLAYERS, "^player 9;");
        // With each of fewer windows taken it is the number that can not stand there.
        fault("window 1 1;player 0 0 1;", "player 0 ^0 1;");
    }

    /** "the first byte of the first TOKEN that can not stand there". */
    private static void readFirstFault() {
        fault("", "slow ^99 99 $;");
        fault("", "window 1 ^100 100;");
        fault("", "  ^x slow 1;");
        fault("slow 1;", "^walk");
        fault("", "^$");
        fault("", "window ^100 $");
        fault("", "player ^6 9 0;");
        fault("window 1 1;", "player 0 ^9 0;");
        fault(SIX_PLAYERS, "offset ^9 - 999;");
    }

    /** A TEXT of 250 bytes, to its last one. */
    private static void readWholeText() {
        String long238 = "slow 1;".repeat(34);
        TownPlayers x = Due.town(long238 + "window 1 99;");
        DUE.is("12 250 bytes", x.count(4), 250);
        DUE.is("12 the last item is read", x.count(0), 1);
        items(long238 + "window 1 99;", 35);
        items("slow1;".repeat(41) + "    ", 41);
        fault("slow 1;".repeat(35), "slow^;");
        fault("slow 1;".repeat(35), "    ^x");
        fault("slow 1;".repeat(35), "slow ^");
        fault(long238, "window 1 ^100");
    }

    /** "takes the place of all there was but IMAGES and WIND; what is not told is as at first". */
    private static void readAsAtFirst() {
        String[] told = {"window 7 8;", "ear 7 8;", "mill 7 8;", "slow 8;", "window 7 8;player 4 0 9;", "window 7 8;player 4 0 9;offset 0 - 3;"};
        int[][] due = {{1, 0, 0, 0, 0, 7, 8, -1, -1, 3, 2, -1, 0}, {0, 1, 0, 0, 0, 7, 8, -1, -1, 3, 2, -1, 0}, {0, 0, 0, 0, 0, 7, 8, 3, 2, -1, 0},
            {0, 0, 0, 0, 0, -1, -1, 8, 2, -1, 0}, {1, 0, 1, 0, 0, 7, 8, -1, -1, 3, 2, -1, 0, 4, 0, 9, 0, 0},
            {1, 0, 1, 0, 0, 7, 8, -1, -1, 3, 2, -1, 0, 4, 0, 9, -3, 0}};
        for (int k = 0; k < told.length; k++) {
            TownPlayers x = Due.town(SIX_PLAYERS + "ear 1 1;mill 2 2;slow 9;offset 0 99;");
            x.put(1, 2);
            x.put(2, -1);
            x.put(3, 77);
            x.follow(0, 5);
            for (int n = 0; n < 3; n++) x.round();
            x.settles();
            Due.read(x, told[k]);
            due[k][4] = told[k].length();
            DUE.is("12 of a town, '" + told[k] + "'", x.digest(), sum(due[k]));
            DUE.is("12 no ROUND may be undone then", x.undo(), TownPlayers.NO);
        }
    }

    /** "(THE TEXT stays)"; "(STATUS does not count it): all stays". */
    private static void readLeaves() {
        TownPlayers x = Due.town("window 1 2;player 0 0 9;");
        x.image(0);
        x.clear();
        Due.type(x, "window 3 4;window 5 6;");
        for (int k = 0; k < 3; k++) {
            DUE.is("12 once more", x.read(), 2);
            DUE.is("12 THE TEXT stays", x.count(4), 22);
        }
        x.player(0, 1, 9);
        x.round();
        x.type('e', 1);
        long was = x.digest();
        for (int k = 0; k < 3; k++) {
            DUE.is("12 a FAULT at the end", x.read(), -10 - 22);
            DUE.is("12 all stays", x.digest(), was);
        }
        for (int r = 0; r < 3; r++) DUE.is("12 STATUS does not count it", x.status(r), 0);
        DUE.is("12 the ROUND may be undone", x.undo(), 1);
        DUE.is("12 the IMAGE is kept", x.from(0), 1);
        DUE.is("12 as it was", x.digest(), sum(1, 0, 1, 0, 23, 1, 2, -1, -1, 3, 0, 0, 0, 0, 0, 9, 0, 0));
        Due.type(x, "ar 1 1;");
        DUE.is("12 mended", x.read(), 3);
    }
}
