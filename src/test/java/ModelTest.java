import java.util.Random;

/** Random runs of calls, each answered by the class and by the model, and all that can be seen behind each. */
final class ModelTest {
    private static final int RUNS = 400;
    private static final int CALLS = 120;

    private final Due due = new Due("ModelTest");
    private final Random random;
    private TownPlayers town;
    private Model model;
    private String told = "";

    private ModelTest(long seed) {
        random = new Random(seed);
    }

    public static void main(String[] args) {
        ModelTest test = new ModelTest(args.length > 0 ? Long.parseLong(args[0]) : 20261119L);
        int runs = args.length > 1 ? Integer.parseInt(args[1]) : RUNS;
        for (int run = 0; run < runs; run++) test.run(run);
        test.due.end();
    }

    private void run(int number) {
        town = new TownPlayers();
        model = new Model();
        boolean near = number % 2 == 0;
        if (number % 4 != 3) buildTown(near);
        for (int k = 0; k < CALLS; k++) {
            told = "run " + number + ", call " + k + ": ";
            call(near);
            ask("digest()", town.digest(), model.digest());
        }
        for (int what = 0; what < 3; what++) ask("status(" + what + ")", town.status(what), model.status(what));
    }

    private void ask(String call, long got, long want) {
        due.is(told + call, got, want);
    }

    /** Mostly within the bounds, at times at their very edge, beyond, or far beyond. */
    private int some(int low, int high) {
        int kind = random.nextInt(24);
        if (kind == 4 && random.nextInt(4) == 0) return random.nextBoolean() ? Integer.MIN_VALUE : Integer.MAX_VALUE;
        if (kind == 0) return low - 1;
        if (kind == 1) return high + 1;
        if (kind == 2) return low;
        if (kind == 3) return high;
        return high < low ? low : low + random.nextInt(high - low + 1);
    }

    private int among(int many) {
        return some(0, Math.max(0, many - 1));
    }

    private int place(boolean near) {
        return near ? 40 + random.nextInt(20) : some(0, 99);
    }

    private int apart() {
        return random.nextInt(3) == 0 ? some(0, 999) : random.nextInt(120);
    }

    private void buildTown(boolean near) {
        told = "build: ";
        int windows = 1 + random.nextInt(6), ears = random.nextInt(4);
        for (int k = 0; k < windows; k++) addWindow(place(near), place(near));
        for (int k = 0; k < ears; k++) addEar(place(near), place(near));
        if (random.nextBoolean()) buildMill(place(near), place(near));
        int players = random.nextInt(windows + 1);
        for (int k = 0; k < players; k++) addPlayer(random.nextInt(6), random.nextInt(windows), 40 + random.nextInt(60));
    }

    private void addWindow(int x, int y) {
        ask("window(" + x + ", " + y + ")", town.window(x, y), model.window(x, y));
    }

    private void addEar(int x, int y) {
        ask("ear(" + x + ", " + y + ")", town.ear(x, y), model.ear(x, y));
    }

    private void buildMill(int x, int y) {
        ask("mill(" + x + ", " + y + ")", town.mill(x, y), model.mill(x, y));
    }

    private void addPlayer(int kind, int window, int loud) {
        ask("player(" + kind + ", " + window + ", " + loud + ")", town.player(kind, window, loud), model.player(kind, window, loud));
    }

    private void call(boolean near) {
        int which = random.nextInt(36);
        if (which < 12) changeTown(which, near);
        else if (which < 20) askHeard(which);
        else if (which < 26) askRounds(which);
        else if (which < 32) askPlaces(which);
        else askRest(which);
    }

    private void changeTown(int which, boolean near) {
        switch (which) {
            case 0 -> addWindow(place(near), place(near));
            case 1 -> addEar(place(near), place(near));
            case 2 -> buildMill(place(near), place(near));
            case 3, 4 -> {
                int what = some(0, 3), v = what == 0 ? some(1, 9) : what == 3 ? random.nextInt(8) == 0 ? some(0, 999) : random.nextInt(60) : some(-2, 2);
                ask("put(" + what + ", " + v + ")", town.put(what, v), model.put(what, v));
            }
            case 5, 6 -> addPlayer(some(0, 5), among(model.windows.size()), near ? 30 + random.nextInt(70) : some(1, 99));
            case 7, 8 -> {
                int p = among(model.players.size()), v = random.nextInt(3) == 0 ? some(-500, 500) : random.nextInt(80) - 40;
                ask("offset(" + p + ", " + v + ")", town.offset(p, v), model.offset(p, v));
            }
            case 9 -> {
                int p = among(model.players.size()), what = some(0, 1);
                ask("late(" + p + ", " + what + ")", town.late(p, what), model.late(p, what));
            }
            case 10 -> {
                int w = among(model.windows.size()), e = among(model.ears.size());
                ask("sound(" + w + ", " + e + ")", town.sound(w, e), model.sound(w, e));
            }
            default -> askText();
        }
    }

    private void askText() {
        int what = random.nextInt(4);
        if (what == 0) {
            int n = some(0, 9);
            long v = random.nextLong();
            ask("type(" + v + ", " + n + ")", town.type(v, n), model.type(v, n));
        } else if (what == 1) {
            ask("clear()", town.clear(), model.clear());
        } else if (what == 2) {
            ask("read()", town.read(), model.read());
        } else {
            ask("clear()", town.clear(), model.clear());
            String text = TextTest.someText(random);
            for (int at = 0; at < text.length(); at += 8) {
                int n = Math.min(8, text.length() - at);
                long v = random.nextLong();
                for (int k = 0; k < n; k++) v = v << 8 | text.charAt(at + k) & 255;
                ask("type(" + v + ", " + n + ")", town.type(v, n), model.type(v, n));
            }
            ask("read() of '" + text + "'", town.read(), model.read());
        }
    }

    private void askHeard(int which) {
        int e = among(model.ears.size()), n = apart();
        switch (which) {
            case 12 -> {
                int t = some(0, 9999), i = some(-1, 12);
                ask("heard(" + e + ", " + t + ", " + i + ")", town.heard(e, t, i), model.heard(e, t, i));
            }
            case 13 -> {
                int i = some(0, 12);
                ask("loud(" + e + ", " + i + ")", town.loud(e, i), model.loud(e, i));
            }
            case 14 -> ask("spread(" + e + ")", town.spread(e), model.spread(e));
            case 15 -> ask("together(" + n + ")", town.together(n), model.together(n));
            case 16, 17 -> {
                int who = some(-1, model.players.size() - 1);
                ask("tuned(" + n + ", " + who + ")", town.tuned(n, who), model.tuned(n, who));
            }
            case 18 -> ask("clash(" + n + ")", town.clash(n), model.clash(n));
            default -> ask("leftOut(" + n + ")", town.leftOut(n), model.leftOut(n));
        }
    }

    private void askRounds(int which) {
        int p = among(model.players.size()), q = among(model.players.size());
        switch (which) {
            case 20, 21 -> ask("follow(" + p + ", " + q + ")", town.follow(p, q), model.follow(p, q));
            case 22 -> ask("round()", town.round(), model.round());
            case 23 -> ask("undo()", town.undo(), model.undo());
            case 24 -> ask("settles()", town.settles(), model.settles());
            default -> {
                int d = some(-99, 99), r = some(0, 20);
                ask("slip(" + p + ", " + d + ", " + r + ")", town.slip(p, d, r), model.slip(p, d, r));
            }
        }
    }

    private void askPlaces(int which) {
        switch (which) {
            case 26, 27 -> {
                int p = among(model.players.size());
                ask("best(" + p + ")", town.best(p), model.best(p));
            }
            case 28, 29 -> askWrong();
            case 30 -> {
                int w = among(1 << model.windows.size());
                ask("nextEar(" + w + ")", town.nextEar(w), model.nextEar(w));
            }
            default -> {
                int n = apart();
                ask("drawn(" + n + ")", town.drawn(n), model.drawn(n));
            }
        }
    }

    /** Times such as a true window gives, at times with one part more. */
    private void askWrong() {
        int ears = some(1, (1 << model.ears.size()) - 1);
        int[] t = {some(0, 9999), some(0, 9999), some(0, 9999)};
        if (!model.windows.isEmpty() && random.nextInt(5) != 0) {
            int w = random.nextInt(model.windows.size()), begun = random.nextInt(2000) - 500;
            for (int e = 0; e < model.ears.size(); e++) t[e] = begun + model.takes(w, e) + random.nextInt(9) / 8;
        }
        ask("wrong(" + ears + ", " + t[0] + ", " + t[1] + ", " + t[2] + ")",
                town.wrong(ears, t[0], t[1], t[2]), model.wrong(ears, t[0], t[1], t[2]));
    }

    private void askRest(int which) {
        int i = some(0, 1);
        switch (which) {
            case 32 -> ask("image(" + i + ")", town.image(i), model.image(i));
            case 33 -> ask("from(" + i + ")", town.from(i), model.from(i));
            case 34 -> {
                int what = some(0, 2);
                ask("status(" + what + ")", town.status(what), model.status(what));
            }
            default -> {
                int what = some(0, 4);
                ask("count(" + what + ")", town.count(what), model.count(what));
            }
        }
    }
}
