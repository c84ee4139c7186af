/** The examples of README.md answer what it says. */
final class ReadmeTest {
    private static final Due DUE = new Due("ReadmeTest");

    private ReadmeTest() {}

    public static void main(String[] args) {
        TownPlayers town = new TownPlayers();
        int window = town.window(10, 10);
        DUE.is("window", window, 0);
        int ear = town.ear(10, 20);
        DUE.is("ear", ear, 0);
        int player = town.player(0, window, 50);
        DUE.is("player", player, 0);
        DUE.is("sound", town.sound(window, ear), 30);
        DUE.is("how many are heard", town.heard(ear, 100, TownPlayers.NONE), 1);
        DUE.is("when the first is", town.heard(ear, 100, 0), 130);
        DUE.is("tuned", town.tuned(0, player), -500);
        DUE.is("a text", town.type(0x656172203320343BL, 8), 8);
        DUE.is("read", town.read(), 1);
        DUE.is("windows are gone", town.count(0), 0);
        DUE.is("players are gone", town.count(2), 0);
        DUE.is("a byte that begins none", town.type('?', 1), 9);
        DUE.is("its fault", town.read(), -18);
        DUE.is("all stays", town.count(1), 1);
        DUE.end();
    }
}
