import java.util.ArrayList;
import java.util.List;
import java.util.Random;

/** TUNED of up to three players against all offsets tried one by one, the least first. */
final class TunedTest {
    private static final int[] ONE_NOTE = {0, 1, 3};

    private final Due due = new Due("TunedTest");
    private final Random random = new Random(17);
    private final List<Model.Plain> players = new ArrayList<>();
    private final List<List<Model.Note>> notes = new ArrayList<>();
    private int apart;

    public static void main(String[] args) {
        TunedTest test = new TunedTest();
        for (int k = 0; k < 200; k++) test.tryOne(k % 10 == 0 ? 3 : 2, k % 3 == 0 && k % 10 != 0 ? 100 : 10);
        test.due.end();
    }

    private void tryOne(int many, int wide) {
        TownPlayers town = new TownPlayers();
        Model model = new Model();
        for (int w = 0; w < 6; w++) {
            int x = random.nextInt(wide), y = random.nextInt(wide);
            town.window(x, y);
            model.window(x, y);
        }
        for (int e = random.nextInt(3); e >= 0; e--) {
            int x = random.nextInt(wide), y = random.nextInt(wide);
            town.ear(x, y);
            model.ear(x, y);
        }
        town.mill(wide / 2, wide / 2);
        model.mill(wide / 2, wide / 2);
        int slow = wide > 10 ? 9 : 1 + random.nextInt(9);
        town.put(0, slow);
        model.put(0, slow);
        for (int p = 0; p < many; p++) {
            // All offsets of three, tried in vain, take too long where one is free of the others.
            int kind = many == 3 ? ONE_NOTE[random.nextInt(3)] : random.nextInt(3) == 0 ? 3 : random.nextInt(6);
            town.player(kind, p, 99);
            model.player(kind, p, 99);
        }
        players.clear();
        players.addAll(model.players);
        notes.clear();
        for (int e = 0; e < model.ears.size(); e++) notes.add(model.notes(e));
        apart = many == 3 ? random.nextInt(4) : random.nextInt(3) == 0 ? random.nextInt(wide * 5) : random.nextInt(12);
        ask(town, many);
    }

    private void ask(TownPlayers town, int many) {
        int[] found = leastFrom(0) ? players.stream().mapToInt(p -> p.offset).toArray() : null;
        due.is("tuned(" + apart + ", NONE)", town.tuned(apart, TownPlayers.NONE), found == null ? 0 : 1);
        for (int p = 0; p < many; p++) due.is("tuned(" + apart + ", " + p + ")", town.tuned(apart, p), found == null ? -1000 : found[p]);
    }

    private boolean leastFrom(int p) {
        if (p == players.size()) return true;
        for (int v = -500; v <= 500; v++) {
            players.get(p).offset = v;
            if (holdsFor(p) && leastFrom(p + 1)) return true;
        }
        return false;
    }

    /** Whether the notes of the players up to this one are near enough. */
    private boolean holdsFor(int last) {
        for (List<Model.Note> heard : notes) {
            int low = Integer.MAX_VALUE, high = Integer.MIN_VALUE;
            for (Model.Note note : heard) {
                if (note.player() > last) continue;
                int time = players.get(note.player()).late() + note.takes();
                low = Math.min(low, time);
                high = Math.max(high, time);
            }
            if (low != Integer.MAX_VALUE && high - low > apart) return false;
        }
        return true;
    }
}
