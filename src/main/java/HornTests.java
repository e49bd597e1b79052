/** The tests at the giant's table: what each is, who pulls at it, what comes of it. */
public final class HornTests {
    public static final int BAD = -1, STATE = -2, FULL = -3, NONE = -4;

    private static final int MOST_TESTS = 4;
    private static final int MOST_SIZE = 99;
    private static final int MOST_PULLED = 99;
    private static final int MOST_STRENGTH = 20;
    private static final int FIRST_STRENGTH = 10;
    private static final int MOST_LAUGHS = 999;
    private static final int MOST_ACTS = 8;
    private static final int REST = 4;
    private static final int KINDS = 4;
    private static final int PLAIN = 0, SNAKE = 1, SEA = 2;
    private static final int MOST_COUNTED_PULLS = 20;
    private static final int MOST_LUCKY_PULLS = 8;
    private static final int LONGEST_ROW = 4;
    private static final int MOST_DRIFTED = 60;
    private static final int IMAGES = 2;
    private static final int LANES = 3;
    private static final int NO_FAULT = 0;

    private final Evening now;
    /** What is only tried out happens here, so that nothing is made anew in a call. */
    private final Evening trial;
    private final Evening firstImage;
    private final Evening secondImage;
    private final boolean[] kept;
    private final Scribe scribe;
    private final Sightings sightings;
    private final Odds odds;
    private final Sheets sheets;
    private int textFault;
    private int readFault;

    public HornTests() {
        now = new Evening();
        trial = new Evening();
        firstImage = new Evening();
        secondImage = new Evening();
        kept = new boolean[IMAGES];
        scribe = new Scribe();
        sightings = new Sightings();
        odds = new Odds();
        sheets = new Sheets();
    }

    // ---- the text, what there is

    public int feed(int c) {
        if (!within(c, 0, 127)) {
            return BAD;
        }
        return scribe.write(c) ? scribe.length : FULL;
    }

    public int end(int n) {
        if (!within(n, 0, scribe.length)) {
            return BAD;
        }
        int had = scribe.length;
        scribe.length = n;
        return had;
    }

    public int text() {
        scribe.readAll();
        scribe.length = 0;
        textFault = scribe.fault;
        if (textFault != NO_FAULT) {
            return -10 - scribe.place;
        }
        now.become(scribe.draft);
        sightings.known = 0;
        kept[0] = false;
        kept[1] = false;
        return scribe.lines;
    }

    public int fault() {
        return textFault;
    }

    public int rule(int what) {
        switch (what) {
            case 0: return now.tests;
            case 1: return now.strength;
            case 2: return now.laughs;
            case 3: return now.acts;
            case 4: return now.wonBits();
            case 5: return now.allMoved();
            default: return BAD;
        }
    }

    public int test(int t, int what) {
        if (!now.has(t)) {
            return BAD;
        }
        switch (what) {
            case 0: return now.kind[t];
            case 1: return now.size[t];
            case 2: return now.moved[t];
            case 3: return now.pulled[t];
            case 4: return now.yieldOf(t);
            default: return BAD;
        }
    }

    public int act(int i) {
        return within(i, 0, now.acts - 1) ? now.planned[i] : BAD;
    }

    // ---- what is changed

    public int alter(int t, int what, int v) {
        if (!now.has(t)) {
            return BAD;
        }
        switch (what) {
            case 0: return replace(now.kind, t, v, 0, KINDS - 1);
            case 1: return resize(t, v);
            case 3: return replace(now.pulled, t, v, 0, MOST_PULLED);
            default: return BAD;
        }
    }

    private int resize(int t, int v) {
        if (within(v, 1, MOST_SIZE) && v < now.moved[t]) {
            return STATE;
        }
        return replace(now.size, t, v, 1, MOST_SIZE);
    }

    private static int replace(int[] row, int t, int v, int least, int most) {
        if (!within(v, least, most)) {
            return BAD;
        }
        int was = row[t];
        row[t] = v;
        return was;
    }

    public int strong(int v) {
        if (!within(v, 0, MOST_STRENGTH)) {
            return BAD;
        }
        int was = now.strength;
        now.strength = v;
        return was;
    }

    public int fill(int t) {
        if (!now.has(t)) {
            return BAD;
        }
        int was = now.moved[t];
        now.moved[t] = 0;
        now.pulled[t] = 0;
        return was;
    }

    public int plan(int act) {
        if (act != REST && !now.has(act)) {
            return BAD;
        }
        if (now.acts >= MOST_ACTS) {
            return FULL;
        }
        now.planned[now.acts] = act;
        now.acts++;
        return now.acts;
    }

    public int cut(int n) {
        if (!within(n, 0, now.acts)) {
            return BAD;
        }
        int had = now.acts;
        now.acts = n;
        return had;
    }

    // ---- pulls

    public int pull(int t) {
        if (!now.has(t)) {
            return BAD;
        }
        return now.canPull(t) ? now.pullAt(t) : STATE;
    }

    public int rest(int n) {
        if (!within(n, 0, 20)) {
            return BAD;
        }
        for (int i = 0; i < n; i++) {
            now.restOnce();
        }
        return now.strength;
    }

    public int runs(int what) {
        if (!within(what, 0, 4)) {
            return BAD;
        }
        trial.become(now);
        int firstPassedOver = trial.runPlan();
        switch (what) {
            case 0: return trial.wonBits();
            case 1: return trial.allMoved();
            case 2: return trial.strength;
            case 3: return trial.laughs - now.laughs;
            default: return firstPassedOver;
        }
    }

    public int ahead(int t) {
        if (!now.has(t)) {
            return BAD;
        }
        trial.become(now);
        trial.runPlan();
        return trial.moved[t];
    }

    public int need(int t) {
        return now.has(t) ? now.pullsAlone(t, now.kind[t], now.strength) : BAD;
    }

    public int least(int t, int n) {
        if (!now.has(t) || !within(n, 0, MOST_COUNTED_PULLS)) {
            return BAD;
        }
        for (int strength = 0; strength <= MOST_STRENGTH; strength++) {
            if (isWonBy(n, now.pullsAlone(t, now.kind[t], strength))) {
                return strength;
            }
        }
        return NONE;
    }

    private static boolean isWonBy(int n, int pullsNeeded) {
        return pullsNeeded != NONE && pullsNeeded <= n;
    }

    // ---- what is best

    public int best(int n, int what) {
        if (!within(n, 0, LONGEST_ROW) || what < 0 || within(what, 2, 9)) {
            return BAD;
        }
        int place = what - 10;
        if (place >= n) {
            return NONE;
        }
        int row = bestRow(n);
        if (place >= 0) {
            return actOfRow(row, n, place);
        }
        tryRow(row, n);
        return what == 0 ? trial.wonCount() : trial.allMoved();
    }

    /** Rows are numbered in their order, so the first of equals has the least number. */
    private int bestRow(int n) {
        int rows = 1;
        for (int i = 0; i < n; i++) {
            rows *= now.tests + 1;
        }
        int found = 0;
        int mostWon = -1;
        int mostMoved = -1;
        for (int row = 0; row < rows; row++) {
            tryRow(row, n);
            int won = trial.wonCount();
            int moved = trial.allMoved();
            if (won > mostWon || (won == mostWon && moved > mostMoved)) {
                found = row;
                mostWon = won;
                mostMoved = moved;
            }
        }
        return found;
    }

    private void tryRow(int row, int n) {
        trial.become(now);
        for (int i = 0; i < n; i++) {
            trial.perform(actOfRow(row, n, i));
        }
    }

    /** A row's number is written with one figure an ACT, the last figure being the REST. */
    private int actOfRow(int row, int n, int place) {
        int figures = now.tests + 1;
        if (figures < 1) {
            return REST;
        }
        int upToPlace = row;
        for (int i = n - 1; i > place; i--) {
            upToPlace /= figures;
        }
        int figure = upToPlace % figures;
        return figure == now.tests ? REST : figure;
    }

    public int hide(int t, int n) {
        if (!now.has(t) || !within(n, 0, MOST_COUNTED_PULLS)) {
            return BAD;
        }
        for (int kind = 0; kind < KINDS; kind++) {
            if (!isWonBy(n, now.pullsAlone(t, kind, now.strength))) {
                return kind;
            }
        }
        return NONE;
    }

    public int swap(int what) {
        if (!within(what, 0, 1)) {
            return BAD;
        }
        trial.become(now);
        trial.runPlan();
        int fewest = trial.laughs;
        int places = NONE;
        for (int i = 0; i < now.acts; i++) {
            for (int j = i + 1; j < now.acts; j++) {
                int laughs = laughsIfChanged(i, j);
                if (laughs < fewest) {
                    fewest = laughs;
                    places = 10 * i + j;
                }
            }
        }
        if (places == NONE || what == 0) {
            return places;
        }
        return fewest - now.laughs;
    }

    private int laughsIfChanged(int i, int j) {
        trial.become(now);
        trial.planned[i] = now.planned[j];
        trial.planned[j] = now.planned[i];
        trial.runPlan();
        return trial.laughs;
    }

    public int unmask(int what) {
        if (!within(what, 0, 1)) {
            return BAD;
        }
        trial.become(now);
        trial.runPlan();
        int most = trial.allMoved();
        int found = NONE;
        for (int t = 0; t < now.tests; t++) {
            int moved = movedIfPlain(t);
            if (moved > most) {
                most = moved;
                found = t;
            }
        }
        return found == NONE || what == 0 ? found : most;
    }

    private int movedIfPlain(int t) {
        trial.become(now);
        trial.kind[t] = PLAIN;
        trial.runPlan();
        return trial.allMoved();
    }

    // ---- pulls that slip

    public long luck(int v, int t, int n, int what) {
        if (!areOdds(v, t, n, what)) {
            return BAD;
        }
        odds.spread(now, t, n, v);
        return odds.lowest(odds.waysWon(), what);
    }

    public long mean(int v, int t, int n, int what) {
        if (!areOdds(v, t, n, what)) {
            return BAD;
        }
        odds.spread(now, t, n, v);
        return odds.lowest(odds.movedInAllWays(), what);
    }

    private boolean areOdds(int v, int t, int n, int what) {
        return within(v, 0, Odds.ALL) && now.has(t)
            && within(n, 0, MOST_LUCKY_PULLS) && within(what, 0, 1);
    }

    // ---- what a test is

    public int see(int t, int s, int p, int y) {
        if (!now.has(t) || !within(s, 1, MOST_STRENGTH) || !within(p, 0, 20) || !within(y, 0, 20)) {
            return BAD;
        }
        return sightings.add(t, s, p, y) ? sightings.known : FULL;
    }

    public int forget(int n) {
        if (!within(n, 0, sightings.known)) {
            return BAD;
        }
        int had = sightings.known;
        sightings.known = n;
        return had;
    }

    public int kinds(int t) {
        return now.has(t) ? sightings.kindsOf(t) : BAD;
    }

    public int ask(int t, int what) {
        if (!now.has(t) || !within(what, 0, 1)) {
            return BAD;
        }
        int possible = sightings.kindsOf(t);
        int fewest = Integer.bitCount(possible);
        int found = NONE;
        for (int strength = 1; strength <= MOST_STRENGTH; strength++) {
            int left = leftAtWorst(possible, strength, now.pulled[t]);
            if (left < fewest) {
                fewest = left;
                found = strength;
            }
        }
        return found == NONE || what == 0 ? found : fewest;
    }

    private static int leftAtWorst(int possible, int strength, int pulled) {
        int worst = 0;
        for (int kind = 0; kind < KINDS; kind++) {
            if (hasBit(possible, kind)) {
                int shown = yieldBy(kind, strength, pulled);
                worst = Math.max(worst, Integer.bitCount(possible & kindsThatYield(shown, strength, pulled)));
            }
        }
        return worst;
    }

    public int arms(int t, int p, int y, int what) {
        if (!now.has(t) || !within(p, 0, 20) || !within(y, 0, 20) || !within(what, 0, 2)) {
            return BAD;
        }
        int possible = sightings.kindsOf(t);
        int many = 0;
        int least = NONE;
        int greatest = NONE;
        for (int strength = 1; strength <= MOST_STRENGTH; strength++) {
            if ((possible & kindsThatYield(y, strength, p)) != 0) {
                many++;
                least = least == NONE ? strength : least;
                greatest = strength;
            }
        }
        if (what == 0) {
            return many;
        }
        return what == 1 ? least : greatest;
    }

    // ---- by a seed

    public int drift(int seed, int n, int what) {
        if (!within(n, 1, MOST_DRIFTED) || !within(what, 0, 1)) {
            return BAD;
        }
        if (now.tests < 1) {
            return STATE;
        }
        trial.become(now);
        int grown = seed;
        for (int i = 0; i < n; i++) {
            grown = grown * 1103515245 + 12345;
            int t = ((grown >>> 16) & 0x7fff) % now.tests;
            trial.perform(trial.canPull(t) ? t : REST);
        }
        return what == 0 ? trial.wonBits() : trial.laughs - now.laughs;
    }

    // ---- images, sheets

    public int keep(int k) {
        if (!within(k, 0, IMAGES - 1)) {
            return BAD;
        }
        int was = kept[k] ? 1 : 0;
        imageAt(k).become(now);
        kept[k] = true;
        return was;
    }

    public int back(int k) {
        if (!within(k, 0, IMAGES - 1)) {
            return BAD;
        }
        if (!kept[k]) {
            return STATE;
        }
        now.become(imageAt(k));
        return now.laughs;
    }

    private Evening imageAt(int k) {
        return k == 0 ? firstImage : secondImage;
    }

    public int sheet(int k, int lane, int n) {
        if (!Sheets.has(k) || !within(lane, 0, LANES - 1) || n > Sheets.MOST_CELLS) {
            return BAD;
        }
        if (n < 0) {
            return -10 - Sheets.SIZE_FAULT;
        }
        sheets.renew(k, lane, n);
        return 1;
    }

    public int lay(int k, int i, int v) {
        if (!Sheets.has(k)) {
            return BAD;
        }
        int found = sheets.faultOfCell(k, i);
        if (found != NO_FAULT) {
            return -10 - found;
        }
        sheets.put(k, i, v);
        return 1;
    }

    public int read(int k, int lane, int f, int n) {
        if (!Sheets.has(k) || !within(lane, 0, LANES - 1) || !within(n, 0, 20)) {
            return BAD;
        }
        trial.become(now);
        int found = NO_FAULT;
        int done = 0;
        for (int i = 0; i < n && found == NO_FAULT; i++) {
            found = sheets.faultOfReading(k, lane, f + i);
            if (found == NO_FAULT) {
                int t = sheets.cells[k][f + i];
                if (!trial.canPull(t)) {
                    return -20 - i;
                }
                trial.pullAt(t);
                done++;
            }
        }
        now.become(trial);
        readFault = found;
        return done;
    }

    public int torn() {
        return readFault;
    }

    public int count(int what) {
        switch (what) {
            case 0: return sightings.known;
            case 1: return (kept[0] ? 1 : 0) + (kept[1] ? 1 : 0);
            case 2: return scribe.length;
            case 3: return sheets.isNothing(0) ? NONE : sheets.length[0];
            case 4: return now.allSizes();
            case 5: return now.allPulled();
            default: return BAD;
        }
    }

    // ---- what all of them use

    private static boolean within(int v, int least, int most) {
        return v >= least && v <= most;
    }

    private static boolean hasBit(int bits, int i) {
        return (bits >> i & 1) != 0;
    }

    private static int yieldBy(int kind, int strength, int pulled) {
        switch (kind) {
            case PLAIN: return strength;
            case SNAKE: return strength / 2;
            case SEA: return strength / 2 / 4;
            default: return Math.max(0, strength - 2 * pulled);
        }
    }

    private static int kindsThatYield(int shown, int strength, int pulled) {
        int bits = 0;
        for (int kind = 0; kind < KINDS; kind++) {
            if (yieldBy(kind, strength, pulled) == shown) {
                bits |= 1 << kind;
            }
        }
        return bits;
    }

    /** TESTS, THE GUEST and THE PLAN: all that an image holds. */
    private static final class Evening {
        int tests;
        int strength;
        int laughs;
        int acts;
        final int[] kind;
        final int[] size;
        final int[] moved;
        final int[] pulled;
        final int[] planned;

        Evening() {
            strength = FIRST_STRENGTH;
            kind = new int[MOST_TESTS];
            size = new int[MOST_TESTS];
            moved = new int[MOST_TESTS];
            pulled = new int[MOST_TESTS];
            planned = new int[MOST_ACTS];
        }

        void clear() {
            tests = 0;
            strength = FIRST_STRENGTH;
            laughs = 0;
            acts = 0;
        }

        void become(Evening other) {
            tests = other.tests;
            strength = other.strength;
            laughs = other.laughs;
            acts = other.acts;
            System.arraycopy(other.kind, 0, kind, 0, MOST_TESTS);
            System.arraycopy(other.size, 0, size, 0, MOST_TESTS);
            System.arraycopy(other.moved, 0, moved, 0, MOST_TESTS);
            System.arraycopy(other.pulled, 0, pulled, 0, MOST_TESTS);
            System.arraycopy(other.planned, 0, planned, 0, MOST_ACTS);
        }

        boolean has(int t) {
            return t >= 0 && t < tests;
        }

        void addTest(int itsKind, int itsSize) {
            kind[tests] = itsKind;
            size[tests] = itsSize;
            moved[tests] = 0;
            pulled[tests] = 0;
            tests++;
        }

        boolean isWon(int t) {
            return moved[t] >= size[t];
        }

        int wonBits() {
            int bits = 0;
            for (int t = 0; t < tests; t++) {
                if (isWon(t)) {
                    bits |= 1 << t;
                }
            }
            return bits;
        }

        int wonCount() {
            return Integer.bitCount(wonBits());
        }

        int allMoved() {
            return sumOf(moved);
        }

        int allSizes() {
            return sumOf(size);
        }

        int allPulled() {
            return sumOf(pulled);
        }

        private int sumOf(int[] row) {
            int sum = 0;
            for (int t = 0; t < tests; t++) {
                sum += row[t];
            }
            return sum;
        }

        int yieldOf(int t) {
            return yieldBy(kind[t], strength, pulled[t]);
        }

        boolean canPull(int t) {
            return has(t) && strength >= 1 && !isWon(t);
        }

        int pullAt(int t) {
            int given = yieldOf(t);
            int before = moved[t];
            moved[t] = Math.min(size[t], before + given);
            pulled[t] = Math.min(MOST_PULLED, pulled[t] + 1);
            if (2 * given < strength) {
                laughs = Math.min(MOST_LAUGHS, laughs + 1);
            }
            strength--;
            return moved[t] - before;
        }

        void restOnce() {
            strength = Math.min(MOST_STRENGTH, strength + 2);
        }

        /** Whether the ACT could be; one that can not be is passed over. */
        boolean perform(int act) {
            if (act == REST) {
                restOnce();
                return true;
            }
            if (!canPull(act)) {
                return false;
            }
            pullAt(act);
            return true;
        }

        int runPlan() {
            int firstPassedOver = NONE;
            for (int i = 0; i < acts; i++) {
                if (!perform(planned[i]) && firstPassedOver == NONE) {
                    firstPassedOver = i;
                }
            }
            return firstPassedOver;
        }

        int pullsAlone(int t, int asKind, int fromStrength) {
            int all = moved[t];
            int times = pulled[t];
            int pulls = 0;
            for (int left = fromStrength; left >= 1 && all < size[t]; left--) {
                all += yieldBy(asKind, left, times);
                times = Math.min(MOST_PULLED, times + 1);
                pulls++;
            }
            return all >= size[t] ? pulls : NONE;
        }
    }

    /** In how many ways, of all, so much of one TEST is MOVED when pulls slip. */
    private static final class Odds {
        static final int ALL = 10;
        /** Euclid's steps on numbers of 64 bits stay far below this. */
        static final int MOST_STEPS = 200;

        final long[] ways;
        long allWays;
        int top;

        Odds() {
            ways = new long[MOST_SIZE + 1];
        }

        void spread(Evening evening, int t, int n, int slips) {
            for (int i = 0; i < ways.length; i++) {
                ways[i] = 0;
            }
            top = evening.size[t];
            ways[evening.moved[t]] = 1;
            allWays = 1;
            int times = evening.pulled[t];
            int strength = evening.strength;
            for (int i = 0; i < n && strength >= 1; i++) {
                spreadOnce(yieldBy(evening.kind[t], strength, times), slips);
                times = Math.min(MOST_PULLED, times + 1);
                strength--;
            }
        }

        /** From the top down, so that what has come from below is not moved twice. */
        private void spreadOnce(int given, int slips) {
            ways[top] *= ALL;
            for (int m = top - 1; m >= 0; m--) {
                long before = ways[m];
                ways[m] = before * slips;
                ways[Math.min(top, m + given)] += before * (ALL - slips);
            }
            allWays *= ALL;
        }

        long waysWon() {
            return ways[top];
        }

        long movedInAllWays() {
            long sum = 0;
            for (int m = 0; m <= top; m++) {
                sum += m * ways[m];
            }
            return sum;
        }

        long lowest(long above, int what) {
            long divisor = commonDivisor(above, allWays);
            if (divisor < 1) {
                return BAD;
            }
            return what == 0 ? above / divisor : allWays / divisor;
        }

        private static long commonDivisor(long a, long b) {
            long greater = a;
            long lesser = b;
            for (int i = 0; i < MOST_STEPS && lesser != 0; i++) {
                long left = greater % lesser;
                greater = lesser;
                lesser = left;
            }
            return greater;
        }
    }

    /** What is SEEN, in the order in which it was told. */
    private static final class Sightings {
        static final int MOST = 6;

        int known;
        final int[] test;
        final int[] strength;
        final int[] before;
        final int[] shown;

        Sightings() {
            test = new int[MOST];
            strength = new int[MOST];
            before = new int[MOST];
            shown = new int[MOST];
        }

        boolean add(int t, int s, int p, int y) {
            if (known >= MOST) {
                return false;
            }
            test[known] = t;
            strength[known] = s;
            before[known] = p;
            shown[known] = y;
            known++;
            return true;
        }

        int kindsOf(int t) {
            int bits = (1 << KINDS) - 1;
            for (int i = 0; i < known; i++) {
                if (test[i] == t) {
                    bits &= kindsThatYield(shown[i], strength[i], before[i]);
                }
            }
            return bits;
        }
    }

    /** Rows of CELLS; each keeps its room, for a new row in the same place. */
    private static final class Sheets {
        static final int MOST = 4;
        static final int MOST_CELLS = 40;
        static final int NULL_FAULT = 1, INDEX_FAULT = 2, CAST_FAULT = 3, SIZE_FAULT = 4;
        static final int NOTHING = -1;
        static final int BYTES = 0, SHORTS = 1;

        final int[] lanes;
        final int[] length;
        final int[][] cells;

        Sheets() {
            lanes = new int[MOST];
            length = new int[MOST];
            cells = new int[MOST][MOST_CELLS];
            for (int k = 0; k < MOST; k++) {
                lanes[k] = NOTHING;
            }
        }

        static boolean has(int k) {
            return k >= 0 && k < MOST;
        }

        boolean isNothing(int k) {
            return lanes[k] == NOTHING;
        }

        void renew(int k, int lane, int n) {
            lanes[k] = lane;
            length[k] = n;
            for (int i = 0; i < n; i++) {
                cells[k][i] = 0;
            }
        }

        int faultOfCell(int k, int i) {
            if (isNothing(k)) {
                return NULL_FAULT;
            }
            return i < 0 || i >= length[k] ? INDEX_FAULT : NO_FAULT;
        }

        /** A row that is nothing passes for any lane; a row of another lane has no cell to ask for. */
        int faultOfReading(int k, int lane, int i) {
            if (!isNothing(k) && lanes[k] != lane) {
                return CAST_FAULT;
            }
            return faultOfCell(k, i);
        }

        void put(int k, int i, int v) {
            switch (lanes[k]) {
                case BYTES:
                    cells[k][i] = (byte) v;
                    break;
                case SHORTS:
                    cells[k][i] = (short) v;
                    break;
                default:
                    cells[k][i] = v;
                    break;
            }
        }
    }

    /** THE TAPE, and what reads it into a draft that is taken only when all is well. */
    private static final class Scribe {
        static final int MOST_BYTES = 160;
        static final int END = 0, NAME = 1, NUMBER = 2, STOP = 3, NO_TOKEN = 4;
        static final int LONGEST_NUMBER = 2;
        static final int GUEST = 4, LAUGHS = 5, PLAN = 6, NO_WORD = 7;
        static final int BROKEN = 1, MISPLACED = 2, OUT_OF_BOUNDS = 3, TWICE = 4, TOO_MANY = 5, MISSING = 6;

        final int[] bytes;
        int length;
        final Evening draft;
        /** A bit for each of guest, laughs, plan that has been told. */
        int told;
        int lines;
        int fault;
        int place;
        int at;
        int token;
        int from;
        int number;

        Scribe() {
            bytes = new int[MOST_BYTES];
            draft = new Evening();
        }

        boolean write(int c) {
            if (length >= MOST_BYTES) {
                return false;
            }
            bytes[length] = c;
            length++;
            return true;
        }

        void readAll() {
            draft.clear();
            told = 0;
            lines = 0;
            fault = NO_FAULT;
            place = 0;
            at = 0;
            advance();
            for (int i = 0; i <= MOST_BYTES && fault == NO_FAULT && token != END; i++) {
                readLine();
            }
            if (fault == NO_FAULT && plansMissingTest()) {
                refuse(MISSING, length);
            }
        }

        private void readLine() {
            int word = token == NAME ? wordRead() : NO_WORD;
            if (word == NO_WORD) {
                refuse(faultOfToken(), from);
            } else if (word < KINDS) {
                readTest(word);
            } else {
                readOnce(word);
            }
            if (fault != NO_FAULT) {
                return;
            }
            if (token != STOP) {
                refuse(faultOfToken(), from);
                return;
            }
            lines++;
            advance();
        }

        private void readTest(int itsKind) {
            if (draft.tests >= MOST_TESTS) {
                refuse(TOO_MANY, from);
                return;
            }
            advance();
            if (!isNumberWithin(1, MOST_SIZE)) {
                return;
            }
            int t = draft.tests;
            draft.addTest(itsKind, number);
            advance();
            if (token != NUMBER || !isNumberWithin(0, draft.size[t])) {
                return;
            }
            draft.moved[t] = number;
            advance();
            if (token != NUMBER || !isNumberWithin(0, MOST_PULLED)) {
                return;
            }
            draft.pulled[t] = number;
            advance();
        }

        private void readOnce(int word) {
            if (hasBit(told, word)) {
                refuse(TWICE, from);
                return;
            }
            told |= 1 << word;
            advance();
            if (word == PLAN) {
                readPlan();
            } else if (word == GUEST && isNumberWithin(0, MOST_STRENGTH)) {
                draft.strength = number;
                advance();
            } else if (word == LAUGHS && isNumberWithin(0, 99)) {
                draft.laughs = number;
                advance();
            }
        }

        private void readPlan() {
            for (int i = 0; i <= MOST_ACTS && token == NUMBER; i++) {
                if (draft.acts >= MOST_ACTS) {
                    refuse(TOO_MANY, from);
                    return;
                }
                if (!isNumberWithin(0, REST)) {
                    return;
                }
                draft.planned[draft.acts] = number;
                draft.acts++;
                advance();
            }
        }

        private boolean plansMissingTest() {
            for (int i = 0; i < draft.acts; i++) {
                if (draft.planned[i] != REST && !draft.has(draft.planned[i])) {
                    return true;
                }
            }
            return false;
        }

        /** Whether the token is a NUMBER of these bounds; what is wrong with it is told. */
        private boolean isNumberWithin(int least, int most) {
            if (token == NUMBER && within(number, least, most)) {
                return true;
            }
            refuse(token == NUMBER ? OUT_OF_BOUNDS : faultOfToken(), from);
            return false;
        }

        private int faultOfToken() {
            return token == NO_TOKEN ? BROKEN : MISPLACED;
        }

        private void refuse(int itsFault, int itsPlace) {
            fault = itsFault;
            place = itsPlace;
        }

        private void advance() {
            skip(' ', ' ');
            from = at;
            if (at >= length) {
                token = END;
            } else if (bytes[at] == ';') {
                token = STOP;
                at++;
            } else if (within(bytes[at], 'a', 'z')) {
                token = NAME;
                skip('a', 'z');
            } else if (within(bytes[at], '0', '9')) {
                skip('0', '9');
                takeNumber();
            } else {
                token = NO_TOKEN;
            }
        }

        private void skip(char first, char last) {
            while (at < length && bytes[at] >= first && bytes[at] <= last) {
                at++;
            }
        }

        private void takeNumber() {
            if (at - from > LONGEST_NUMBER) {
                token = NO_TOKEN;
                return;
            }
            token = NUMBER;
            number = 0;
            for (int i = from; i < at; i++) {
                number = number * 10 + bytes[i] - '0';
            }
        }

        private int wordRead() {
            for (int word = 0; word < NO_WORD; word++) {
                if (isWord(spelling(word))) {
                    return word;
                }
            }
            return NO_WORD;
        }

        private boolean isWord(String letters) {
            if (letters.length() != at - from) {
                return false;
            }
            for (int i = 0; i < letters.length(); i++) {
                if (bytes[from + i] != letters.charAt(i)) {
                    return false;
                }
            }
            return true;
        }

        /** KINDS stand first, so that a word below KINDS is its KIND. */
        private static String spelling(int word) {
            switch (word) {
                case 0: return "plain";
                case 1: return "snake";
                case 2: return "sea";
                case 3: return "age";
                case GUEST: return "guest";
                case LAUGHS: return "laughs";
                default: return "plan";
            }
        }
    }
}
