/** Players at the windows of a hill town, and what is heard of them at the ears in the square. */
public final class TownPlayers {
    public static final int NONE = -1, BAD = -2, NO = -3, FULL = -4;

    private static final int WINDOW_LIMIT = 6, EAR_LIMIT = 3, PLAYER_LIMIT = 6;
    private static final int PAST_LIMIT = 8, TEXT_LIMIT = 250, IMAGE_LIMIT = 2;
    private static final int PLACE_TOP = 99, SLOW_TOP = 9, WIND_TOP = 2, CATCH_TOP = 999;
    private static final int LOUD_TOP = 99, OFFSET_TOP = 500, SLIP_TOP = 99, ROUND_TOP = 20;
    private static final int TIME_TOP = 9999, APART_TOP = 999;
    private static final int SLOW_AT_FIRST = 3, EARLY_BY = 20;

    private static final int EARLY = 1, ECHOED = 2, BYEYE = 3, TWO = 4, ASLEEP = 5;

    // Each call that may be refused has its own answer for BAD where BAD could be a true answer.
    private static final int PUT_BAD = -10, OFFSET_BAD = -1000, HEARD_BAD = -200000;
    private static final int LOUD_BAD = -10, TUNED_BAD = -2000, STATUS_BAD = -1;
    private static final int HEARD_NO_MORE = -100000, LOUD_NO_MORE = -5, TUNED_NONE = -1000;
    private static final int FAULT_BASE = -10;

    private final Streets streets = new Streets();
    private final Band band = new Band();
    private final Streets[] imageStreets = new Streets[IMAGE_LIMIT];
    private final Band[] imageBands = new Band[IMAGE_LIMIT];
    private final int[] imageKept = new int[IMAGE_LIMIT];
    private final Streets trialStreets = new Streets();
    private final Band trialBand = new Band();
    private final Band slippedBand = new Band();
    private final Hearing hearing = new Hearing();
    private final Tuner tuner = new Tuner();
    private final Seating seating = new Seating();
    private final Reader reader = new Reader();
    private final byte[] text = new byte[TEXT_LIMIT];
    private int textSize = 0;
    private final int[] noteTimes = new int[EAR_LIMIT];
    private int refusedBad = 0;
    private int refusedNo = 0;
    private int refusedFull = 0;

    public TownPlayers() {
        for (int i = 0; i < IMAGE_LIMIT; i++) {
            imageStreets[i] = new Streets();
            imageBands[i] = new Band();
        }
    }

    // ---- a town

    public int window(int x, int y) {
        if (!isPlace(x, y)) return refuseBad(BAD);
        if (streets.windows >= WINDOW_LIMIT) return refuseFull();
        return streets.addWindow(x, y);
    }

    public int ear(int x, int y) {
        if (!isPlace(x, y)) return refuseBad(BAD);
        if (streets.ears >= EAR_LIMIT) return refuseFull();
        return streets.addEar(x, y);
    }

    public int mill(int x, int y) {
        if (!isPlace(x, y)) return refuseBad(BAD);
        streets.buildMill(x, y);
        return 1;
    }

    public int put(int what, int v) {
        int was;
        if (what == 0 && isWithin(v, 1, SLOW_TOP)) {
            was = streets.slow;
            streets.slow = v;
        } else if (what == 1 && isWithin(v, -WIND_TOP, WIND_TOP)) {
            was = streets.windX;
            streets.windX = v;
        } else if (what == 2 && isWithin(v, -WIND_TOP, WIND_TOP)) {
            was = streets.windY;
            streets.windY = v;
        } else if (what == 3 && isWithin(v, 0, CATCH_TOP)) {
            was = band.caught;
            band.caught = v;
        } else {
            was = refuseBad(PUT_BAD);
        }
        return was;
    }

    public int player(int kind, int window, int loud) {
        if (!isWithin(kind, 0, ASLEEP) || !hasWindow(window) || !isWithin(loud, 1, LOUD_TOP)) {
            return refuseBad(BAD);
        }
        if (band.playsAt(window)) return refuseBad(BAD);
        if (band.players >= PLAYER_LIMIT) return refuseFull();
        return band.addPlayer(kind, window, loud);
    }

    public int offset(int player, int v) {
        if (!hasPlayer(player) || !isWithin(v, -OFFSET_TOP, OFFSET_TOP)) return refuseBad(OFFSET_BAD);
        int was = band.offsets[player];
        band.offsets[player] = v;
        return was;
    }

    public int late(int player, int what) {
        if (!hasPlayer(player) || !isWithin(what, 0, 1)) return refuseBad(OFFSET_BAD);
        if (what == 0) return band.offsets[player];
        return band.lateOf(player);
    }

    public int sound(int window, int ear) {
        if (!hasWindow(window) || !hasEar(ear)) return refuseBad(BAD);
        return streets.soundTime(window, ear);
    }

    public int type(long v, int n) {
        if (!isWithin(n, 1, 8)) return refuseBad(BAD);
        if (textSize + n > TEXT_LIMIT) return refuseFull();
        for (int left = n - 1; left >= 0; left--) {
            text[textSize] = (byte) (v >>> (8 * left));
            textSize++;
        }
        return textSize;
    }

    public int clear() {
        int was = textSize;
        textSize = 0;
        return was;
    }

    public int read() {
        trialStreets.becomeLike(streets);
        trialStreets.makeEmpty();
        trialBand.makeEmpty();
        int items = reader.readTown(text, textSize, trialStreets, trialBand);
        if (items < 0) return FAULT_BASE - reader.fault;
        streets.becomeLike(trialStreets);
        band.becomeLike(trialBand);
        return items;
    }

    // ---- what is heard

    public int heard(int ear, int t, int i) {
        if (!hasEar(ear) || !isTime(t) || i < NONE) return refuseBad(HEARD_BAD);
        hearing.listen(streets, band, ear);
        if (i == NONE) return hearing.size;
        if (i >= hearing.size) return HEARD_NO_MORE;
        return t + hearing.timeOf(band, i);
    }

    public int loud(int ear, int i) {
        if (!hasEar(ear) || i < 0) return refuseBad(LOUD_BAD);
        hearing.listen(streets, band, ear);
        if (i >= hearing.size) return LOUD_NO_MORE;
        return hearing.loudness[i];
    }

    public int spread(int ear) {
        if (!hasEar(ear)) return refuseBad(BAD);
        return hearing.spreadAt(streets, band, ear);
    }

    public int together(int n) {
        if (!isWithin(n, 0, APART_TOP)) return refuseBad(BAD);
        return isTogether(n) ? 1 : 0;
    }

    public int tuned(int n, int who) {
        if (!isWithin(n, 0, APART_TOP)) return refuseBad(TUNED_BAD);
        if (who != NONE && !hasPlayer(who)) return refuseBad(TUNED_BAD);
        tuner.weigh(streets, band, hearing, n);
        boolean found = tuner.tunes(band, everyPlayer());
        if (who == NONE) return found ? 1 : 0;
        return found ? tuner.leastOffset(band, who) : TUNED_NONE;
    }

    public int clash(int n) {
        if (!isWithin(n, 0, APART_TOP)) return refuseBad(BAD);
        tuner.weigh(streets, band, hearing, n);
        int all = everyPlayer();
        if (tuner.tunes(band, all)) return NONE;
        for (int many = 1; many <= band.players; many++) {
            for (int some = 1; some <= all; some++) {
                if (Integer.bitCount(some) == many && !tuner.tunes(band, some)) return some;
            }
        }
        return NONE;
    }

    public int leftOut(int n) {
        if (!isWithin(n, 0, APART_TOP)) return refuseBad(BAD);
        tuner.weigh(streets, band, hearing, n);
        int all = everyPlayer();
        for (int many = 0; many <= band.players; many++) {
            for (int some = 0; some <= all; some++) {
                if (Integer.bitCount(some) == many && tuner.tunes(band, all & ~some)) return some;
            }
        }
        return all;
    }

    // ---- rounds

    public int follow(int player, int other) {
        if (!hasPlayer(player) || !hasPlayer(other)) return refuseBad(BAD);
        int was = band.follows[player];
        band.follows[player] = other;
        return was;
    }

    public int round() {
        band.rememberOffsets();
        return band.advance(streets);
    }

    public int undo() {
        if (band.pasts <= 0) return refuseNo();
        band.recallOffsets();
        return 1;
    }

    public int settles() {
        trialBand.becomeLike(band);
        for (int done = 0; done <= ROUND_TOP; done++) {
            if (trialBand.advance(streets) == 0) return done;
        }
        return NONE;
    }

    public int slip(int player, int d, int r) {
        if (!hasPlayer(player) || !isWithin(d, -SLIP_TOP, SLIP_TOP) || !isWithin(r, 0, ROUND_TOP)) {
            return refuseBad(BAD);
        }
        trialBand.becomeLike(band);
        slippedBand.becomeLike(band);
        slippedBand.offsets[player] = heldOffset(band.offsets[player] + d);
        for (int done = 0; done < r; done++) {
            trialBand.advance(streets);
            slippedBand.advance(streets);
        }
        return trialBand.playersUnlike(slippedBand);
    }

    // ---- places, wrong notes

    public int best(int player) {
        if (!hasPlayer(player)) return refuseBad(BAD);
        if (streets.windows < band.players || streets.ears == 0) return NONE;
        trialBand.becomeLike(band);
        seating.search(streets, trialBand, hearing);
        return seating.chosen[player];
    }

    public int wrong(int ears, int t0, int t1, int t2) {
        if (ears < 1 || ears >= 1 << streets.ears) return refuseBad(BAD);
        // Each time is held to its bounds, also that at an ear where nothing was heard.
        if (!isTime(t0) || !isTime(t1) || !isTime(t2)) return refuseBad(BAD);
        noteTimes[0] = t0;
        noteTimes[1] = t1;
        noteTimes[2] = t2;
        int found = 0;
        for (int w = 0; w < streets.windows; w++) {
            if (streets.mayComeFrom(w, ears, noteTimes)) found |= 1 << w;
        }
        return found == 0 ? NONE : found;
    }

    public int nextEar(int windows) {
        if (windows < 0 || windows >= 1 << streets.windows) return refuseBad(BAD);
        int chosen = NONE;
        int most = 0;
        for (int e = 0; e < streets.ears; e++) {
            int parted = streets.pairsParted(windows, e);
            if (parted > most) {
                most = parted;
                chosen = e;
            }
        }
        return chosen;
    }

    public int drawn(int n) {
        if (!isWithin(n, 0, APART_TOP)) return refuseBad(BAD);
        int was = streets.windX;
        int times = 0;
        for (int wind = -WIND_TOP; wind <= WIND_TOP; wind++) {
            streets.windX = wind;
            if (isTogether(n)) times++;
        }
        streets.windX = was;
        return times;
    }

    // ---- what there is

    public int image(int i) {
        if (!isWithin(i, 0, IMAGE_LIMIT - 1)) return refuseBad(BAD);
        imageStreets[i].becomeLike(streets);
        imageBands[i].becomeLike(band);
        imageKept[i] = 1;
        return 1;
    }

    public int from(int i) {
        if (!isWithin(i, 0, IMAGE_LIMIT - 1)) return refuseBad(BAD);
        if (imageKept[i] == 0) return refuseNo();
        streets.becomeLike(imageStreets[i]);
        band.becomeLike(imageBands[i]);
        return 1;
    }

    public int status(int what) {
        switch (what) {
            case 0: return refusedBad;
            case 1: return refusedNo;
            case 2: return refusedFull;
            default: return refuseBad(STATUS_BAD);
        }
    }

    public int count(int what) {
        if (!isWithin(what, 0, 4)) return refuseBad(BAD);
        return howMany(what);
    }

    public long digest() {
        long h = 677;
        for (int what = 0; what <= 4; what++) {
            h = 31 * h + howMany(what);
        }
        return band.digestOn(streets.digestOn(h), streets);
    }

    private int howMany(int what) {
        switch (what) {
            case 0: return streets.windows;
            case 1: return streets.ears;
            case 2: return band.players;
            case 3: return band.pasts;
            default: return textSize;
        }
    }

    private boolean isTogether(int n) {
        for (int e = 0; e < streets.ears; e++) {
            if (hearing.spreadAt(streets, band, e) > n) return false;
        }
        return true;
    }

    private int everyPlayer() {
        return (1 << band.players) - 1;
    }

    private boolean hasWindow(int window) {
        return window >= 0 && window < streets.windows;
    }

    private boolean hasEar(int ear) {
        return ear >= 0 && ear < streets.ears;
    }

    private boolean hasPlayer(int player) {
        return player >= 0 && player < band.players;
    }

    private int refuseBad(int answer) {
        refusedBad++;
        return answer;
    }

    private int refuseNo() {
        refusedNo++;
        return NO;
    }

    private int refuseFull() {
        refusedFull++;
        return FULL;
    }

    private static boolean isWithin(int v, int low, int high) {
        return v >= low && v <= high;
    }

    private static boolean isPlace(int x, int y) {
        return isWithin(x, 0, PLACE_TOP) && isWithin(y, 0, PLACE_TOP);
    }

    private static boolean isTime(int t) {
        return isWithin(t, 0, TIME_TOP);
    }

    private static boolean holds(int bits, int i) {
        return (bits >> i & 1) == 1;
    }

    private static int heldOffset(int v) {
        return Math.max(-OFFSET_TOP, Math.min(OFFSET_TOP, v));
    }

    private static int apart(int x0, int y0, int x1, int y1) {
        return Math.abs(x0 - x1) + Math.abs(y0 - y1);
    }

    private static void copyRow(int[] source, int[] target) {
        System.arraycopy(source, 0, target, 0, Math.min(source.length, target.length));
    }

    /** Windows, ears, the mill, and how the air between them carries a sound. */
    private static final class Streets {
        int windows = 0;
        final int[] windowX = new int[WINDOW_LIMIT];
        final int[] windowY = new int[WINDOW_LIMIT];
        int ears = 0;
        final int[] earX = new int[EAR_LIMIT];
        final int[] earY = new int[EAR_LIMIT];
        int millX = NONE;
        int millY = NONE;
        int slow = SLOW_AT_FIRST;
        int windX = 0;
        int windY = 0;

        /** All as at first but the wind, which no text tells. */
        void makeEmpty() {
            windows = 0;
            ears = 0;
            millX = NONE;
            millY = NONE;
            slow = SLOW_AT_FIRST;
        }

        void becomeLike(Streets other) {
            windows = other.windows;
            copyRow(other.windowX, windowX);
            copyRow(other.windowY, windowY);
            ears = other.ears;
            copyRow(other.earX, earX);
            copyRow(other.earY, earY);
            millX = other.millX;
            millY = other.millY;
            slow = other.slow;
            windX = other.windX;
            windY = other.windY;
        }

        int addWindow(int x, int y) {
            if (windows >= WINDOW_LIMIT) return FULL;
            windowX[windows] = x;
            windowY[windows] = y;
            windows++;
            return windows - 1;
        }

        int addEar(int x, int y) {
            if (ears >= EAR_LIMIT) return FULL;
            earX[ears] = x;
            earY[ears] = y;
            ears++;
            return ears - 1;
        }

        void buildMill(int x, int y) {
            millX = x;
            millY = y;
        }

        boolean hasMill() {
            return millX >= 0;
        }

        int nextWindow(int w) {
            return w + 1 < windows ? w + 1 : 0;
        }

        int pacesToEar(int w, int e) {
            return apart(windowX[w], windowY[w], earX[e], earY[e]);
        }

        int pacesByMill(int w, int e) {
            return apart(windowX[w], windowY[w], millX, millY) + apart(millX, millY, earX[e], earY[e]);
        }

        int timeBetween(int w, int v) {
            return apart(windowX[w], windowY[w], windowX[v], windowY[v]) * slow;
        }

        int soundTime(int w, int e) {
            int wind = windX * (windowX[w] - earX[e]) + windY * (windowY[w] - earY[e]);
            return Math.max(0, apart(windowX[w], windowY[w], earX[e], earY[e]) * slow + wind);
        }

        /** Whether one beginning at this window explains all the told times. */
        boolean mayComeFrom(int w, int told, int[] times) {
            int first = NONE;
            for (int e = 0; e < ears; e++) {
                if (!holds(told, e)) continue;
                if (first == NONE) first = e;
                int begun = times[e] - soundTime(w, e);
                if (begun != times[first] - soundTime(w, first)) return false;
            }
            return true;
        }

        int pairsParted(int some, int e) {
            int pairs = 0;
            for (int a = 0; a < windows; a++) {
                if (!holds(some, a)) continue;
                int far = soundTime(a, e) - soundTime(a, 0);
                for (int b = a + 1; b < windows; b++) {
                    if (holds(some, b) && soundTime(b, e) - soundTime(b, 0) != far) pairs++;
                }
            }
            return pairs;
        }

        long digestOn(long start) {
            long h = start;
            for (int w = 0; w < windows; w++) {
                h = 31 * h + windowX[w];
                h = 31 * h + windowY[w];
            }
            for (int e = 0; e < ears; e++) {
                h = 31 * h + earX[e];
                h = 31 * h + earY[e];
            }
            h = 31 * h + millX;
            return 31 * h + millY;
        }
    }

    /** The players, whom each follows, and the offsets that may be had back. */
    private static final class Band {
        int players = 0;
        final int[] kinds = new int[PLAYER_LIMIT];
        final int[] windows = new int[PLAYER_LIMIT];
        final int[] louds = new int[PLAYER_LIMIT];
        final int[] offsets = new int[PLAYER_LIMIT];
        final int[] follows = new int[PLAYER_LIMIT];
        final int[] nextOffsets = new int[PLAYER_LIMIT];
        int caught = 0;
        int pasts = 0;
        final int[] pastOffsets = new int[PAST_LIMIT * PLAYER_LIMIT];

        void makeEmpty() {
            players = 0;
            caught = 0;
            pasts = 0;
        }

        void becomeLike(Band other) {
            players = other.players;
            copyRow(other.kinds, kinds);
            copyRow(other.windows, windows);
            copyRow(other.louds, louds);
            copyRow(other.offsets, offsets);
            copyRow(other.follows, follows);
            caught = other.caught;
            pasts = other.pasts;
            copyRow(other.pastOffsets, pastOffsets);
        }

        boolean playsAt(int window) {
            for (int p = 0; p < players; p++) {
                if (windows[p] == window) return true;
            }
            return false;
        }

        int addPlayer(int kind, int window, int loud) {
            if (players >= PLAYER_LIMIT) return FULL;
            kinds[players] = kind;
            windows[players] = window;
            louds[players] = loud;
            offsets[players] = 0;
            follows[players] = players;
            players++;
            pasts = 0;
            return players - 1;
        }

        int lateOf(int p) {
            if (kinds[p] == EARLY) return offsets[p] - EARLY_BY;
            if (kinds[p] == BYEYE) return offsets[p] / 10 * 10;
            return offsets[p];
        }

        /** One round, all players at once: how many offsets became others. */
        int advance(Streets streets) {
            for (int p = 0; p < players; p++) {
                int q = follows[p];
                nextOffsets[p] = offsets[p];
                if (q != p) {
                    int takes = streets.timeBetween(windows[p], windows[q]);
                    nextOffsets[p] = heldOffset(offsets[q] + takes - caught);
                }
            }
            int changed = 0;
            for (int p = 0; p < players; p++) {
                if (nextOffsets[p] != offsets[p]) changed++;
                offsets[p] = nextOffsets[p];
            }
            return changed;
        }

        void rememberOffsets() {
            if (pasts >= PAST_LIMIT) {
                // The oldest round is no longer one that may be undone.
                System.arraycopy(pastOffsets, PLAYER_LIMIT, pastOffsets, 0, (PAST_LIMIT - 1) * PLAYER_LIMIT);
                pasts = PAST_LIMIT - 1;
            }
            System.arraycopy(offsets, 0, pastOffsets, pasts * PLAYER_LIMIT, PLAYER_LIMIT);
            pasts++;
        }

        void recallOffsets() {
            if (pasts <= 0) return;
            pasts--;
            System.arraycopy(pastOffsets, pasts * PLAYER_LIMIT, offsets, 0, PLAYER_LIMIT);
        }

        int playersUnlike(Band other) {
            int unlike = 0;
            for (int p = 0; p < players; p++) {
                if (offsets[p] != other.offsets[p]) unlike |= 1 << p;
            }
            return unlike;
        }

        long digestOn(long start, Streets streets) {
            long h = start;
            h = 31 * h + streets.slow;
            h = 31 * h + streets.windX;
            h = 31 * h + streets.windY;
            h = 31 * h + caught;
            for (int p = 0; p < players; p++) {
                h = 31 * h + kinds[p];
                h = 31 * h + windows[p];
                h = 31 * h + louds[p];
                h = 31 * h + offsets[p];
                h = 31 * h + follows[p];
            }
            return h;
        }
    }

    /** All that is heard at one ear, in the players' order. */
    private static final class Hearing {
        int size = 0;
        final int[] who = new int[2 * PLAYER_LIMIT];
        final int[] takes = new int[2 * PLAYER_LIMIT];
        final int[] loudness = new int[2 * PLAYER_LIMIT];

        void listen(Streets streets, Band band, int ear) {
            size = 0;
            for (int p = 0; p < band.players; p++) {
                int kind = band.kinds[p];
                if (kind == ASLEEP) continue;
                int w = band.windows[p];
                int loud = band.louds[p];
                add(p, streets.soundTime(w, ear), loud - streets.pacesToEar(w, ear));
                if (kind == ECHOED && streets.hasMill()) {
                    int paces = streets.pacesByMill(w, ear);
                    add(p, paces * streets.slow, loud / 2 - paces);
                }
                if (kind == TWO) {
                    int second = streets.nextWindow(w);
                    add(p, streets.soundTime(second, ear), loud - streets.pacesToEar(second, ear));
                }
            }
        }

        private void add(int p, int time, int loud) {
            if (loud <= 0 || size >= who.length) return;
            who[size] = p;
            takes[size] = time;
            loudness[size] = loud;
            size++;
        }

        int timeOf(Band band, int i) {
            return band.lateOf(who[i]) + takes[i];
        }

        int spreadAt(Streets streets, Band band, int ear) {
            listen(streets, band, ear);
            if (size < 2) return 0;
            int first = timeOf(band, 0);
            int last = first;
            for (int i = 1; i < size; i++) {
                int time = timeOf(band, i);
                first = Math.min(first, time);
                last = Math.max(last, time);
            }
            return last - first;
        }
    }

    /**
     * Finds the least offsets. That all is heard within n parts says of each two players p, q that
     * LATE of q is LATE of p and some number at least; such claims have one solution that is least
     * for every player at once, and it is reached from the lowest values by raising what is too low.
     */
    private static final class Tuner {
        // So far below any LATE that a claim with it asks nothing.
        private static final int NO_CLAIM = -100000;
        // A chain of claims passes each BYEYE player once and between them each other one once.
        private static final int PASS_LIMIT = 64;

        final int[] claims = new int[PLAYER_LIMIT * PLAYER_LIMIT];
        final int[] lates = new int[PLAYER_LIMIT];

        void weigh(Streets streets, Band band, Hearing hearing, int n) {
            for (int c = 0; c < claims.length; c++) {
                claims[c] = NO_CLAIM;
            }
            for (int e = 0; e < streets.ears; e++) {
                hearing.listen(streets, band, e);
                for (int i = 0; i < hearing.size; i++) {
                    for (int j = 0; j < hearing.size; j++) {
                        int c = hearing.who[i] * PLAYER_LIMIT + hearing.who[j];
                        claims[c] = Math.max(claims[c], hearing.takes[i] - hearing.takes[j] - n);
                    }
                }
            }
        }

        /** Whether these players alone can be tuned; their least LATEs stand in the row then. */
        boolean tunes(Band band, int some) {
            for (int p = 0; p < band.players; p++) {
                lates[p] = lowestLate(band.kinds[p]);
            }
            for (int pass = 0; pass < PASS_LIMIT; pass++) {
                boolean raised = false;
                for (int p = 0; p < band.players; p++) {
                    if (!holds(some, p)) continue;
                    int needed = neededLate(band, some, p);
                    if (needed > lowestLate(band.kinds[p]) + 2 * OFFSET_TOP) return false;
                    if (needed > lates[p]) raised = true;
                    lates[p] = needed;
                }
                if (!raised) return true;
            }
            return false;
        }

        private int neededLate(Band band, int some, int p) {
            int needed = lates[p];
            for (int q = 0; q < band.players; q++) {
                if (holds(some, q)) {
                    needed = Math.max(needed, lates[q] + claims[q * PLAYER_LIMIT + p]);
                }
            }
            if (band.kinds[p] == BYEYE) return -(Math.floorDiv(-needed, 10) * 10);
            return needed;
        }

        private static int lowestLate(int kind) {
            return kind == EARLY ? -OFFSET_TOP - EARLY_BY : -OFFSET_TOP;
        }

        /** The least offset that gives the LATE found. */
        int leastOffset(Band band, int p) {
            int late = lates[p];
            if (band.kinds[p] == EARLY) return late + EARLY_BY;
            // Cutting goes toward 0, so nine more below end at the same ten.
            if (band.kinds[p] == BYEYE && late <= 0) return Math.max(-OFFSET_TOP, late - 9);
            return late;
        }
    }

    /** Tries all ways to put the players at unlike windows, in the order of those windows. */
    private static final class Seating {
        // Six players at six windows make 1956 steps forth and some 1200 back.
        private static final int STEP_LIMIT = 10000;

        final int[] chosen = new int[PLAYER_LIMIT];
        private final int[] loudSoFar = new int[PLAYER_LIMIT];
        private int chosenLoud = NONE;
        private int chosenSpread = 0;

        void search(Streets streets, Band trial, Hearing hearing) {
            chosenLoud = NONE;
            chosenSpread = 0;
            int p = 0;
            trial.windows[p] = NONE;
            for (int step = 0; step < STEP_LIMIT && p >= 0; step++) {
                trial.windows[p] = nextFree(streets, trial, p);
                if (trial.windows[p] == NONE) {
                    p--;
                    continue;
                }
                // With nobody awake each way is as loud as any other.
                int before = p == 0 ? LOUD_TOP : loudSoFar[p - 1];
                loudSoFar[p] = Math.min(before, leastLoud(streets, trial, p));
                // A way that is less loud than the chosen one can't become louder.
                if (loudSoFar[p] < chosenLoud) continue;
                if (p + 1 < trial.players) {
                    p++;
                    trial.windows[p] = NONE;
                } else {
                    judge(streets, trial, hearing, loudSoFar[p]);
                }
            }
        }

        /** The next window behind the player's that none of the players ahead of it has. */
        private static int nextFree(Streets streets, Band trial, int p) {
            int taken = 0;
            for (int q = 0; q < p; q++) {
                taken |= 1 << trial.windows[q];
            }
            for (int w = trial.windows[p] + 1; w < streets.windows; w++) {
                if (!holds(taken, w)) return w;
            }
            return NONE;
        }

        private void judge(Streets streets, Band trial, Hearing hearing, int loud) {
            int sum = 0;
            for (int e = 0; e < streets.ears; e++) {
                sum += hearing.spreadAt(streets, trial, e);
            }
            if (loud > chosenLoud || sum < chosenSpread) {
                chosenLoud = loud;
                chosenSpread = sum;
                copyRow(trial.windows, chosen);
            }
        }

        private static int leastLoud(Streets streets, Band trial, int p) {
            int least = LOUD_TOP;
            if (trial.kinds[p] == ASLEEP) return least;
            for (int e = 0; e < streets.ears; e++) {
                least = Math.min(least, trial.louds[p] - streets.pacesToEar(trial.windows[p], e));
            }
            return Math.max(0, least);
        }
    }

    /** Takes the text's tokens one by one and builds the town they tell. */
    private static final class Reader {
        private static final int END = 0, WORD = 1, NUMBER = 2, MINUS = 3, STOP = 4, UNFIT = 5;
        private static final int MOST_FIGURES = 3;

        private byte[] bytes = new byte[0];
        private int size = 0;
        private int place = 0;
        private int start = 0;
        private int token = END;
        private int value = 0;
        // The place of the token that can not stand there, of the last town that was none.
        int fault = 0;

        /** How many items, or NONE: then the fault is told. */
        int readTown(byte[] text, int textSize, Streets streets, Band band) {
            bytes = text;
            size = Math.min(textSize, text.length);
            place = 0;
            for (int items = 0; items <= size; items++) {
                takeToken();
                if (token == END) return items;
                if (!readItem(streets, band)) {
                    fault = start;
                    return NONE;
                }
            }
            return NONE;
        }

        private boolean readItem(Streets streets, Band band) {
            if (token != WORD) return false;
            if (isWord("window")) return readWindow(streets);
            if (isWord("ear")) return readEar(streets);
            if (isWord("mill")) return readMill(streets);
            if (isWord("slow")) return readSlow(streets);
            if (isWord("player")) return readPlayer(streets, band);
            if (isWord("offset")) return readOffset(band);
            return false;
        }

        private boolean readWindow(Streets streets) {
            if (streets.windows >= WINDOW_LIMIT || !takeNumber(0, PLACE_TOP)) return false;
            int x = value;
            if (!takeNumber(0, PLACE_TOP)) return false;
            streets.addWindow(x, value);
            return takeStop();
        }

        private boolean readEar(Streets streets) {
            if (streets.ears >= EAR_LIMIT || !takeNumber(0, PLACE_TOP)) return false;
            int x = value;
            if (!takeNumber(0, PLACE_TOP)) return false;
            streets.addEar(x, value);
            return takeStop();
        }

        private boolean readMill(Streets streets) {
            if (!takeNumber(0, PLACE_TOP)) return false;
            int x = value;
            if (!takeNumber(0, PLACE_TOP)) return false;
            streets.buildMill(x, value);
            return takeStop();
        }

        private boolean readSlow(Streets streets) {
            if (!takeNumber(1, SLOW_TOP)) return false;
            streets.slow = value;
            return takeStop();
        }

        private boolean readPlayer(Streets streets, Band band) {
            if (band.players >= PLAYER_LIMIT || !takeNumber(0, ASLEEP)) return false;
            int kind = value;
            if (!takeNumber(0, streets.windows - 1) || band.playsAt(value)) return false;
            int window = value;
            if (!takeNumber(1, LOUD_TOP)) return false;
            band.addPlayer(kind, window, value);
            return takeStop();
        }

        private boolean readOffset(Band band) {
            if (!takeNumber(0, band.players - 1)) return false;
            int player = value;
            takeToken();
            boolean below = token == MINUS;
            if (below) takeToken();
            if (!isNumber(0, OFFSET_TOP)) return false;
            band.offsets[player] = below ? -value : value;
            return takeStop();
        }

        private boolean takeNumber(int low, int high) {
            takeToken();
            return isNumber(low, high);
        }

        private boolean isNumber(int low, int high) {
            return token == NUMBER && isWithin(value, low, high);
        }

        private boolean takeStop() {
            takeToken();
            return token == STOP;
        }

        private void takeToken() {
            while (place < size && bytes[place] == ' ') {
                place++;
            }
            start = place;
            if (place >= size) {
                token = END;
            } else if (isLetter(bytes[place])) {
                takeWord();
            } else if (isFigure(bytes[place])) {
                takeFigures();
            } else {
                takeSign();
            }
        }

        private void takeWord() {
            token = WORD;
            while (place < size && isLetter(bytes[place])) {
                place++;
            }
        }

        private void takeFigures() {
            value = 0;
            while (place < size && isFigure(bytes[place])) {
                // Figures behind the third make the number unfit, however many they are.
                if (place - start < MOST_FIGURES) value = value * 10 + (bytes[place] - '0');
                place++;
            }
            token = place - start <= MOST_FIGURES ? NUMBER : UNFIT;
        }

        private void takeSign() {
            token = bytes[place] == '-' ? MINUS : bytes[place] == ';' ? STOP : UNFIT;
            place++;
        }

        private boolean isWord(String word) {
            if (place - start != word.length()) return false;
            for (int i = 0; i < word.length(); i++) {
                if (bytes[start + i] != word.charAt(i)) return false;
            }
            return true;
        }

        private static boolean isLetter(byte b) {
            return b >= 'a' && b <= 'z';
        }

        private static boolean isFigure(byte b) {
            return b >= '0' && b <= '9';
        }
    }
}
