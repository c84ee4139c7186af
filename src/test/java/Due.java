/** Counts the answers that are not as due and prints each. */
final class Due {
    private final String name;
    private int asked = 0;
    private int wrong = 0;

    Due(String name) {
        this.name = name;
    }

    void is(String call, long got, long want) {
        asked++;
        if (got == want) return;
        wrong++;
        if (wrong <= 40) System.out.println(name + ": " + call + " answered " + got + ", due is " + want);
    }

    void end() {
        System.out.println(name + ": " + asked + " answers, " + wrong + " not as due");
        if (wrong != 0) System.exit(1);
    }

    /** Types a text, eight bytes a call at most. */
    static void type(TownPlayers town, String text) {
        for (int at = 0; at < text.length(); at += 8) {
            int n = Math.min(8, text.length() - at);
            long v = 0;
            for (int k = 0; k < n; k++) v = v << 8 | text.charAt(at + k) & 255;
            town.type(v, n);
        }
    }

    /** What read() answers about a text that takes the place of the one there was. */
    static int read(TownPlayers town, String text) {
        town.clear();
        type(town, text);
        return town.read();
    }

    static TownPlayers town(String text) {
        TownPlayers town = new TownPlayers();
        if (read(town, text) < 0) throw new IllegalStateException("a test's own town has a fault: " + text);
        return town;
    }
}
