import java.util.ArrayDeque;
import java.util.ArrayList;
import java.util.Arrays;
import java.util.Collections;
import java.util.Deque;
import java.util.List;
import java.util.regex.Matcher;
import java.util.regex.Pattern;

/** The document again, written plainly with the Java library and without a thought of cost. */
final class Model {
    record Place(int x, int y) {
        int to(Place p) {
            return Math.abs(x - p.x) + Math.abs(y - p.y);
        }
    }

    record Note(int player, int takes, int loud) {}

    static class Plain {
        int kind, window, loud, offset, follows;

        int late() {
            return offset;
        }

        void heard(Model m, int me, int ear, List<Note> notes) {
            m.direct(me, window, loud, ear, notes);
        }
    }

    static class Early extends Plain {
        int late() {
            return super.late() - 20;
        }
    }

    static class ByEye extends Early {
        int late() {
            return offset - offset % 10;
        }
    }

    static class Echoed extends Plain {
        void heard(Model m, int me, int ear, List<Note> notes) {
            super.heard(m, me, ear, notes);
            if (m.mill == null) return;
            int paces = m.windows.get(window).to(m.mill) + m.mill.to(m.ears.get(ear));
            if (loud / 2 > paces) notes.add(new Note(me, paces * m.slow, loud / 2 - paces));
        }
    }

    static class Two extends Echoed {
        void heard(Model m, int me, int ear, List<Note> notes) {
            m.direct(me, window, loud, ear, notes);
            m.direct(me, (window + 1) % m.windows.size(), loud, ear, notes);
        }
    }

    static class Asleep extends Plain {
        void heard(Model m, int me, int ear, List<Note> notes) {}
    }

    List<Place> windows = new ArrayList<>();
    List<Place> ears = new ArrayList<>();
    Place mill = null;
    int slow = 3, windX = 0, windY = 0, caught = 0;
    List<Plain> players = new ArrayList<>();
    Deque<int[]> pasts = new ArrayDeque<>();
    String text = "";
    Model[] images = new Model[2];
    int[] status = new int[3];

    // ---- helpers

    void direct(int me, int window, int loud, int ear, List<Note> notes) {
        int left = loud - windows.get(window).to(ears.get(ear));
        if (left > 0) notes.add(new Note(me, takes(window, ear), left));
    }

    int takes(int w, int e) {
        Place a = windows.get(w), b = ears.get(e);
        return Math.max(0, a.to(b) * slow + windX * (a.x - b.x) + windY * (a.y - b.y));
    }

    List<Note> notes(int ear) {
        List<Note> notes = new ArrayList<>();
        for (int p = 0; p < players.size(); p++) players.get(p).heard(this, p, ear, notes);
        return notes;
    }

    int spreadOf(int ear) {
        List<Integer> times = new ArrayList<>();
        for (Note n : notes(ear)) times.add(players.get(n.player).late() + n.takes);
        return times.size() < 2 ? 0 : Collections.max(times) - Collections.min(times);
    }

    boolean together0(int n) {
        for (int e = 0; e < ears.size(); e++) if (spreadOf(e) > n) return false;
        return true;
    }

    static Plain of(int kind) {
        Plain p = switch (kind) {
            case 1 -> new Early();
            case 2 -> new Echoed();
            case 3 -> new ByEye();
            case 4 -> new Two();
            case 5 -> new Asleep();
            default -> new Plain();
        };
        p.kind = kind;
        return p;
    }

    static Plain copy(Plain p) {
        Plain q = of(p.kind);
        q.window = p.window;
        q.loud = p.loud;
        q.offset = p.offset;
        q.follows = p.follows;
        return q;
    }

    void take(Model m) {
        windows = new ArrayList<>(m.windows);
        ears = new ArrayList<>(m.ears);
        mill = m.mill;
        slow = m.slow;
        windX = m.windX;
        windY = m.windY;
        caught = m.caught;
        players = new ArrayList<>();
        for (Plain p : m.players) players.add(copy(p));
        pasts = new ArrayDeque<>(m.pasts);
    }

    int refuse(int why, int answer) {
        status[why]++;
        return answer;
    }

    static boolean in(int v, int low, int high) {
        return low <= v && v <= high;
    }

    boolean noPlayer(int p) {
        return !in(p, 0, players.size() - 1);
    }

    // ---- a town

    int window(int x, int y) {
        if (!in(x, 0, 99) || !in(y, 0, 99)) return refuse(0, -2);
        if (windows.size() == 6) return refuse(2, -4);
        windows.add(new Place(x, y));
        return windows.size() - 1;
    }

    int ear(int x, int y) {
        if (!in(x, 0, 99) || !in(y, 0, 99)) return refuse(0, -2);
        if (ears.size() == 3) return refuse(2, -4);
        ears.add(new Place(x, y));
        return ears.size() - 1;
    }

    int mill(int x, int y) {
        if (!in(x, 0, 99) || !in(y, 0, 99)) return refuse(0, -2);
        mill = new Place(x, y);
        return 1;
    }

    int put(int what, int v) {
        int[] low = {1, -2, -2, 0}, high = {9, 2, 2, 999}, now = {slow, windX, windY, caught};
        if (!in(what, 0, 3) || !in(v, low[what], high[what])) return refuse(0, -10);
        int was = now[what];
        if (what == 0) slow = v;
        if (what == 1) windX = v;
        if (what == 2) windY = v;
        if (what == 3) caught = v;
        return was;
    }

    int player(int kind, int window, int loud) {
        if (!in(kind, 0, 5) || !in(window, 0, windows.size() - 1) || !in(loud, 1, 99)) return refuse(0, -2);
        for (Plain p : players) if (p.window == window) return refuse(0, -2);
        if (players.size() == 6) return refuse(2, -4);
        Plain p = of(kind);
        p.window = window;
        p.loud = loud;
        p.follows = players.size();
        players.add(p);
        pasts.clear();
        return players.size() - 1;
    }

    int offset(int player, int v) {
        if (noPlayer(player) || !in(v, -500, 500)) return refuse(0, -1000);
        int was = players.get(player).offset;
        players.get(player).offset = v;
        return was;
    }

    int late(int player, int what) {
        if (noPlayer(player) || !in(what, 0, 1)) return refuse(0, -1000);
        return what == 0 ? players.get(player).offset : players.get(player).late();
    }

    int sound(int window, int ear) {
        if (!in(window, 0, windows.size() - 1) || !in(ear, 0, ears.size() - 1)) return refuse(0, -2);
        return takes(window, ear);
    }

    int type(long v, int n) {
        if (!in(n, 1, 8)) return refuse(0, -2);
        if (text.length() + n > 250) return refuse(2, -4);
        for (int k = n - 1; k >= 0; k--) text += (char) (v >> 8 * k & 255);
        return text.length();
    }

    int clear() {
        int was = text.length();
        text = "";
        return was;
    }

    @SuppressWarnings("serial")
    private static final class Fault extends Exception {
        final int at;

        Fault(int at) {
            super("", null, false, false);
            this.at = at;
        }
    }

    private static final Pattern TOKEN = Pattern.compile(" *(?:([a-z]+)|([0-9]+)|([-;])|(\\z)|(.))", Pattern.DOTALL);

    private record Token(String text, int at) {}

    private static List<Token> tokens(String text) {
        List<Token> all = new ArrayList<>();
        Matcher m = TOKEN.matcher(text);
        int at = 0;
        while (m.find(at) && m.group(4) == null) {
            for (int g = 1; g <= 5; g++) if (m.group(g) != null) all.add(new Token(m.group(g), m.start(g)));
            at = m.end();
        }
        all.add(new Token("", text.length()));
        return all;
    }

    private static int number(Deque<Token> left, int low, int high) throws Fault {
        Token t = left.peek();
        if (!t.text.matches("[0-9]{1,3}") || !in(Integer.parseInt(t.text), low, high)) throw new Fault(t.at);
        return Integer.parseInt(left.pop().text);
    }

    private static void parse(Model m, Deque<Token> left) throws Fault {
        Token word = left.peek();
        boolean full = word.text.equals("window") && m.windows.size() == 6
                || word.text.equals("ear") && m.ears.size() == 3
                || word.text.equals("player") && m.players.size() == 6;
        if (full || !List.of("window", "ear", "mill", "slow", "player", "offset").contains(word.text)) {
            throw new Fault(word.at);
        }
        left.pop();
        switch (word.text) {
            case "window" -> m.window(number(left, 0, 99), number(left, 0, 99));
            case "ear" -> m.ear(number(left, 0, 99), number(left, 0, 99));
            case "mill" -> m.mill(number(left, 0, 99), number(left, 0, 99));
            case "slow" -> m.slow = number(left, 1, 9);
            case "player" -> {
                int kind = number(left, 0, 5);
                int at = left.peek().at;
                int window = number(left, 0, m.windows.size() - 1);
                for (Plain p : m.players) if (p.window == window) throw new Fault(at);
                m.player(kind, window, number(left, 1, 99));
            }
            default -> {
                int p = number(left, 0, m.players.size() - 1);
                int sign = 1;
                if (left.peek().text.equals("-")) {
                    left.pop();
                    sign = -1;
                }
                m.players.get(p).offset = sign * number(left, 0, 500);
            }
        }
        if (!left.peek().text.equals(";")) throw new Fault(left.peek().at);
        left.pop();
    }

    int read() {
        Deque<Token> left = new ArrayDeque<>(tokens(text));
        Model m = new Model();
        int items = 0;
        try {
            for (; !left.peek().text.isEmpty(); items++) parse(m, left);
        } catch (Fault f) {
            return -10 - f.at;
        }
        m.windX = windX;
        m.windY = windY;
        take(m);
        return items;
    }

    // ---- what is heard

    int heard(int ear, int t, int i) {
        if (!in(ear, 0, ears.size() - 1) || !in(t, 0, 9999) || i < -1) return refuse(0, -200000);
        List<Note> notes = notes(ear);
        if (i == -1) return notes.size();
        return i < notes.size() ? t + players.get(notes.get(i).player).late() + notes.get(i).takes : -100000;
    }

    int loud(int ear, int i) {
        if (!in(ear, 0, ears.size() - 1) || i < 0) return refuse(0, -10);
        List<Note> notes = notes(ear);
        return i < notes.size() ? notes.get(i).loud : -5;
    }

    int spread(int ear) {
        return in(ear, 0, ears.size() - 1) ? spreadOf(ear) : refuse(0, -2);
    }

    int together(int n) {
        return !in(n, 0, 999) ? refuse(0, -2) : together0(n) ? 1 : 0;
    }

    /** The least offsets of some players alone, or null: takes from each one's offsets what no other allows. */
    int[] tune(int n, int some) {
        int count = players.size();
        boolean[][] may = new boolean[count][1001];
        int[][] lates = new int[count][1001];
        for (int p = 0; p < count; p++) {
            Plain trial = copy(players.get(p));
            for (int v = 0; v <= 1000; v++) {
                trial.offset = v - 500;
                may[p][v] = true;
                lates[p][v] = trial.late();
            }
        }
        // least[p][q], most[p][q]: how much later q may begin than p.
        int[][] least = new int[count][count], most = new int[count][count];
        for (int[] row : least) Arrays.fill(row, -9999);
        for (int[] row : most) Arrays.fill(row, 9999);
        for (int e = 0; e < ears.size(); e++) {
            for (Note a : notes(e)) {
                for (Note b : notes(e)) {
                    if ((some >> a.player & 1) == 0 || (some >> b.player & 1) == 0) continue;
                    least[a.player][b.player] = Math.max(least[a.player][b.player], a.takes - b.takes - n);
                    most[a.player][b.player] = Math.min(most[a.player][b.player], a.takes - b.takes + n);
                }
            }
        }
        for (boolean again = true; again; ) {
            again = false;
            for (int p = 0; p < count; p++) {
                for (int q = 0; q < count; q++) {
                    again |= thin(may[p], lates[p], may[q], lates[q], least[p][q], most[p][q], p == q);
                }
            }
        }
        int[] answer = new int[count];
        for (int p = 0; p < count; p++) {
            int v = 0;
            while (v <= 1000 && !may[p][v]) v++;
            if (v > 1000) return null;
            answer[p] = v - 500;
        }
        return answer;
    }

    private static boolean thin(boolean[] mayP, int[] lateP, boolean[] mayQ, int[] lateQ, int least, int most, boolean same) {
        if (least == -9999 && most == 9999) return false;
        int[] below = new int[1200];
        for (int v = 0; v <= 1000; v++) if (mayQ[v]) below[lateQ[v] + 550]++;
        for (int k = 1; k < below.length; k++) below[k] += below[k - 1];
        boolean some = false;
        for (int v = 0; v <= 1000; v++) {
            if (!mayP[v]) continue;
            int from = Math.max(lateP[v] + least, -540), to = Math.min(lateP[v] + most, 540);
            boolean kept = same ? least <= 0 && most >= 0 : from <= to && below[to + 550] > below[from + 549];
            if (!kept) {
                mayP[v] = false;
                some = true;
            }
        }
        return some;
    }

    int tuned(int n, int who) {
        if (!in(n, 0, 999) || !in(who, -1, players.size() - 1)) return refuse(0, -2000);
        int[] found = tune(n, -1);
        if (who == -1) return found == null ? 0 : 1;
        return found == null ? -1000 : found[who];
    }

    int clash(int n) {
        if (!in(n, 0, 999)) return refuse(0, -2);
        int best = -1;
        for (int some = 0; some < 1 << players.size(); some++) {
            boolean fewer = best == -1 || Integer.bitCount(some) < Integer.bitCount(best);
            if (fewer && tune(n, some) == null) best = some;
        }
        return best;
    }

    int leftOut(int n) {
        if (!in(n, 0, 999)) return refuse(0, -2);
        int best = -1;
        for (int some = 0; some < 1 << players.size(); some++) {
            boolean fewer = best == -1 || Integer.bitCount(some) < Integer.bitCount(best);
            if (fewer && tune(n, ~some) != null) best = some;
        }
        return best;
    }

    // ---- rounds

    int follow(int player, int other) {
        if (noPlayer(player) || noPlayer(other)) return refuse(0, -2);
        int was = players.get(player).follows;
        players.get(player).follows = other;
        return was;
    }

    int[] offsets() {
        return players.stream().mapToInt(p -> p.offset).toArray();
    }

    int[] after(int[] offsets, int rounds) {
        int[] now = offsets.clone();
        for (int r = 0; r < rounds; r++) {
            int[] next = now.clone();
            for (int p = 0; p < now.length; p++) {
                int q = players.get(p).follows;
                if (q == p) continue;
                int takes = windows.get(players.get(p).window).to(windows.get(players.get(q).window)) * slow;
                next[p] = Math.min(500, Math.max(-500, now[q] + takes - caught));
            }
            now = next;
        }
        return now;
    }

    void setOffsets(int[] offsets) {
        for (int p = 0; p < offsets.length; p++) players.get(p).offset = offsets[p];
    }

    static int unlike(int[] a, int[] b) {
        int bits = 0;
        for (int p = 0; p < a.length; p++) if (a[p] != b[p]) bits += 1 << p;
        return bits;
    }

    int round() {
        int[] was = offsets(), now = after(was, 1);
        pasts.addLast(was);
        if (pasts.size() > 8) pasts.removeFirst();
        setOffsets(now);
        return Integer.bitCount(unlike(was, now));
    }

    int undo() {
        if (pasts.isEmpty()) return refuse(1, -3);
        setOffsets(pasts.removeLast());
        return 1;
    }

    int settles() {
        for (int k = 0; k <= 20; k++) {
            if (Arrays.equals(after(offsets(), k), after(offsets(), k + 1))) return k;
        }
        return -1;
    }

    int slip(int player, int d, int r) {
        if (noPlayer(player) || !in(d, -99, 99) || !in(r, 0, 20)) return refuse(0, -2);
        int[] with = offsets();
        with[player] = Math.min(500, Math.max(-500, with[player] + d));
        return unlike(after(offsets(), r), after(with, r));
    }

    // ---- places, wrong notes

    int best(int player) {
        if (noPlayer(player)) return refuse(0, -2);
        if (windows.size() < players.size() || ears.isEmpty()) return -1;
        Model trial = new Model();
        trial.take(this);
        int ways = 1, bestLoud = -1, bestSpread = 0, answer = -1;
        for (int p = 0; p < players.size(); p++) ways *= windows.size();
        for (int way = 0; way < ways; way++) {
            int rest = way, used = 0;
            for (int p = players.size() - 1; p >= 0; p--) {
                trial.players.get(p).window = rest % windows.size();
                used |= 1 << rest % windows.size();
                rest /= windows.size();
            }
            if (Integer.bitCount(used) < players.size()) continue;
            int loud = 1000, spread = 0;
            for (int e = 0; e < ears.size(); e++) {
                spread += trial.spreadOf(e);
                for (Plain p : trial.players) {
                    if (p.kind != 5) loud = Math.min(loud, Math.max(0, p.loud - windows.get(p.window).to(ears.get(e))));
                }
            }
            if (loud > bestLoud || loud == bestLoud && spread < bestSpread) {
                bestLoud = loud;
                bestSpread = spread;
                answer = trial.players.get(player).window;
            }
        }
        return answer;
    }

    int wrong(int told, int t0, int t1, int t2) {
        int[] times = {t0, t1, t2};
        if (!in(told, 1, (1 << ears.size()) - 1)) return refuse(0, -2);
        for (int t : times) if (!in(t, 0, 9999)) return refuse(0, -2);
        int bits = 0;
        for (int w = 0; w < windows.size(); w++) {
            List<Integer> begun = new ArrayList<>();
            for (int e = 0; e < 3; e++) if ((told >> e & 1) == 1) begun.add(times[e] - takes(w, e));
            if (Collections.min(begun).equals(Collections.max(begun))) bits |= 1 << w;
        }
        return bits == 0 ? -1 : bits;
    }

    int nextEar(int some) {
        if (!in(some, 0, (1 << windows.size()) - 1)) return refuse(0, -2);
        int[] parted = new int[3];
        for (int e = 0; e < ears.size(); e++) {
            for (int a = 0; a < windows.size(); a++) {
                for (int b = 0; b < a; b++) {
                    if ((some >> a & some >> b & 1) == 0) continue;
                    if (takes(a, e) - takes(a, 0) != takes(b, e) - takes(b, 0)) parted[e]++;
                }
            }
        }
        int most = Math.max(parted[0], Math.max(parted[1], parted[2]));
        if (most == 0) return -1;
        return parted[0] == most ? 0 : parted[1] == most ? 1 : 2;
    }

    int drawn(int n) {
        if (!in(n, 0, 999)) return refuse(0, -2);
        Model trial = new Model();
        trial.take(this);
        int times = 0;
        for (trial.windX = -2; trial.windX <= 2; trial.windX++) if (trial.together0(n)) times++;
        return times;
    }

    // ---- what there is

    int image(int i) {
        if (!in(i, 0, 1)) return refuse(0, -2);
        images[i] = new Model();
        images[i].take(this);
        return 1;
    }

    int from(int i) {
        if (!in(i, 0, 1)) return refuse(0, -2);
        if (images[i] == null) return refuse(1, -3);
        take(images[i]);
        return 1;
    }

    int status(int what) {
        return in(what, 0, 2) ? status[what] : refuse(0, -1);
    }

    int count(int what) {
        int[] counts = {windows.size(), ears.size(), players.size(), pasts.size(), text.length()};
        return in(what, 0, 4) ? counts[what] : refuse(0, -2);
    }

    long digest() {
        List<Integer> all = new ArrayList<>();
        for (int what = 0; what <= 4; what++) all.add(count(what));
        for (Place p : windows) all.addAll(List.of(p.x, p.y));
        for (Place p : ears) all.addAll(List.of(p.x, p.y));
        all.addAll(mill == null ? List.of(-1, -1) : List.of(mill.x, mill.y));
        all.addAll(List.of(slow, windX, windY, caught));
        for (Plain p : players) all.addAll(List.of(p.kind, p.window, p.loud, p.offset, p.follows));
        long h = 677;
        for (int v : all) h = 31 * h + v;
        return h;
    }
}
