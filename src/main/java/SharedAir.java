import java.util.NoSuchElementException;

/** Air that is shared by listening: the document ../shared/DOC.md says what each call does. */
public final class SharedAir {
    public static final int NONE = -1;

    private static final int MOST_STATIONS = 6;
    private static final int RANKS = 4;
    private static final int MOST_FRAMES = 8;
    private static final int MOST_UNITS = 9;
    private static final int MOST_RATE = 3;
    private static final int MOST_SIGNS = 80;
    private static final int MOST_UNDONE = 6;
    private static final int MOST_KEPT = 2;
    private static final int MOST_SLOTS = 60;
    // What would be is told of so many SLOTS on, T .. T + 98.
    private static final int MOST_ON = 99;
    private static final int MOST_TIMES = 40;
    private static final int MOST_ALIKE = 5;
    private static final int MOST_ODDS_WINDOW = 31;
    private static final int MOST_NUMBERS = 16;

    private static final int ASKING = 0;
    private static final int TOGETHER = 1;
    private static final int TRIES = 2;
    private static final int WAIT = 3;
    private static final int LEAST_WINDOW = 7;
    private static final int GREATEST_WINDOW = 11;
    // The settings below SEED stand in one array; SEED is the Dice's own.
    private static final int SEED = 12;
    private static final int SEED_AT_FIRST = 1;
    private static final int[] SETTING_AT_FIRST = {5, 2, 4, 2, 2, 3, 6, 3, 7, 15, 15, 31};
    private static final int[] SETTING_AT_MOST = {10, 4, 7, 9, 9, 9, 9, 31, 31, 31, 31, 63};

    private static final int ASK = 0;
    private static final int GRANT = 1;
    private static final int DATA = 2;
    private static final int ANSWER = 3;

    private static final int OWES_NOTHING = 0;
    private static final int OWES_GRANT = 1;
    private static final int OWES_ANSWER = 2;

    private static final int NOT_CLEAR_IN_ASK = 1;
    private static final int NOT_FREE_IN_ASK = 2;
    private static final int SPAN_RAN_IN_ASK = 3;
    private static final int NOT_CLEAR_IN_GRANT = 4;
    private static final int NOTHING_WHOLE = 5;
    private static final int NOT_FREE_BEHIND_DATA = 6;
    private static final int NOT_CLEAR_IN_ANSWER = 7;

    private static final int TO = 0;
    private static final int UNITS = 1;
    private static final int TRIED = 2;
    private static final int OFFERED = 3;
    private static final int MARKED = 4;
    private static final int FRAME_FIELDS = 5;

    private static final int DELIVERED = 0;
    private static final int UNITS_DELIVERED = 1;
    private static final int LOST = 2;
    private static final int BEGUN = 3;
    private static final int FAILED = 4;
    private static final int SLOTS_SENT = 5;
    private static final int MET_INSIDE = 6;
    private static final int SLOTS_TAKEN = 7;
    private static final int MOST_TAKEN = 8;
    private static final int TALLIES = 9;

    private static final int MISSING_SHEET = 3;

    private final Air air = new Air();
    // Whatever only would be is tried here, so that no call makes an Air of its own.
    private final Air trial = new Air();
    private final Dice yearDice = new Dice();
    private final Past past = new Past();
    private final Air[] kept = new Air[MOST_KEPT];
    private final boolean[] isKept = new boolean[MOST_KEPT];
    private final Signs text = new Signs();
    private final Numbers told = new Numbers();
    private final int[] pairs = new int[MOST_STATIONS * MOST_STATIONS];

    public SharedAir() {
        for (int i = 0; i < MOST_KEPT; i++) {
            kept[i] = new Air();
        }
    }

    // ---- texts, settings

    public int sign(int v) {
        return text.addFour(v) ? text.length : NONE;
    }

    public boolean end(int n) {
        return text.cutTo(n);
    }

    public int net() {
        int many = text.digitAt(0, 1, MOST_STATIONS);
        int fault = many < 0 ? 0 : readPairs(many);
        if (fault >= 0) {
            text.length = 0;
            return -1 - fault;
        }
        int hearing = (text.length - 1) / 3;
        text.length = 0;
        past.push(air);
        air.startAnew(many, pairs);
        return hearing;
    }

    public int sets(int what, int v) {
        if (what < 0 || what > SEED) {
            return NONE;
        }
        if (what == SEED) {
            past.push(air);
            air.dice.seed = v;
            return 100;
        }
        if (v < 1 || v > SETTING_AT_MOST[what]) {
            return NONE;
        }
        int was = air.settings[what];
        if (was == v) {
            return -2;
        }
        past.push(air);
        air.settings[what] = v;
        return 100 + was;
    }

    public int setting(int what) throws NoSuchElementException {
        if (what < 0 || what > SEED) {
            throw new NoSuchElementException();
        }
        return what == SEED ? air.dice.seed : air.settings[what];
    }

    public int sheet(int rank, int kind, int n, int f, int step) {
        if (!isRank(rank) || kind < 0 || kind > MISSING_SHEET || n > MOST_STATIONS) {
            return NONE;
        }
        if (air.exchangesOn() > 0) {
            return -4;
        }
        if (kind != MISSING_SHEET && n < 0) {
            return -2;
        }
        air.emptyQueues(rank);
        if (kind == MISSING_SHEET) {
            return -3;
        }
        int came = 0;
        for (int k = 0; k < n && k < air.many; k++) {
            if (comesFromEntry(k, rank, entryOf(kind, f + k * step))) {
                came++;
            }
        }
        return came;
    }

    // ---- frames, slots

    public int offers(int from, int rank, int to, int units) {
        int refused = air.whyNotOffer(from, rank, to, units);
        if (refused < 0) {
            return refused;
        }
        past.push(air);
        return air.takeFrame(from, rank, to, units);
    }

    public int slots(int n) {
        if (n < 1 || n > MOST_SLOTS) {
            return NONE;
        }
        past.push(air);
        int delivered = air.sumOf(DELIVERED);
        int lost = air.sumOf(LOST);
        int failed = air.sumOf(FAILED);
        int inside = air.sumOf(MET_INSIDE);
        for (int i = 0; i < n; i++) {
            air.passSlot();
        }
        told.tellThree(air.sumOf(LOST) - lost, air.sumOf(FAILED) - failed, air.sumOf(MET_INSIDE) - inside);
        return air.sumOf(DELIVERED) - delivered;
    }

    public int draws() {
        past.push(air);
        return air.drawAll();
    }

    // ---- what there is

    public int station(int s, int what) throws NoSuchElementException {
        if (!isStation(s) || what < 0 || what > 6) {
            throw new NoSuchElementException();
        }
        Station it = air.stations[s];
        switch (what) {
            case 0: return it.still;
            case 1: return it.span;
            case 2: return it.isFree() ? 1 : 0;
            case 3: return it.owesTo;
            case 4: return it.owes;
            case 5: return it.hears;
            default: return it.waiting();
        }
    }

    public int rank(int s, int rank, int what) throws NoSuchElementException {
        if (!isStation(s) || !isRank(rank) || what < 0 || what > 3) {
            throw new NoSuchElementException();
        }
        Queue queue = air.stations[s].queues[rank];
        switch (what) {
            case 0: return queue.size;
            case 1: return queue.count;
            case 2: return queue.window;
            default: return air.isReady(s, rank) ? 1 : 0;
        }
    }

    public int frame(int s, int rank, int i, int what) throws NoSuchElementException {
        if (!isStation(s) || !isRank(rank) || what < TO || what > OFFERED) {
            throw new NoSuchElementException();
        }
        Queue queue = air.stations[s].queues[rank];
        if (i < 0 || i >= queue.size) {
            throw new NoSuchElementException();
        }
        return queue.frames[i * FRAME_FIELDS + what];
    }

    public int exchange(int s, int what) {
        if (!isStation(s)) {
            return NONE;
        }
        Exchange it = air.stations[s].exchange;
        if (!it.goesOn) {
            return NONE;
        }
        switch (what) {
            case 0: return it.with;
            case 1: return it.ofRank;
            case 2: return it.frames;
            case 3: return it.places;
            case 4: return it.step;
            case 5: return it.step == DATA ? it.left : 1;
            case 6: return it.whole;
            default: return NONE;
        }
    }

    public int sent() {
        if (air.time == 0) {
            return -2;
        }
        told.tellTwo(air.clear, air.ran);
        return air.sending;
    }

    public int spanOf(int s) {
        if (!isStation(s)) {
            return NONE;
        }
        Station it = air.stations[s];
        if (it.span <= air.time) {
            return -2;
        }
        told.tellTwo(it.spanStep, it.span - air.time);
        return it.spanBy;
    }

    public int rate(int from, int to) {
        if (!isStation(from) || !isStation(to) || from == to) {
            return NONE;
        }
        if (!air.hear(from, to)) {
            return -2;
        }
        Station it = air.stations[from];
        told.tellTwo(it.lucks[to], it.qualities[to]);
        return it.rates[to];
    }

    public int hidden() {
        told.forget();
        for (int a = 0; a < air.many; a++) {
            for (int b = a + 1; b < air.many; b++) {
                // No STATION HEARS itself, so whom both HEAR is a third one.
                boolean third = (air.stations[a].hears & air.stations[b].hears) != 0;
                if (third && !air.hear(a, b)) {
                    told.add(6L * a + b);
                }
            }
        }
        return told.length;
    }

    // ---- who had how much

    public int tally(int s, int what) throws NoSuchElementException {
        if (!isStation(s) || what < 0 || what >= TALLIES) {
            throw new NoSuchElementException();
        }
        return air.stations[s].had.tallies[what];
    }

    public int why(int s) {
        if (!isStation(s)) {
            return NONE;
        }
        Had had = air.stations[s].had;
        if (had.failure == 0) {
            return -2;
        }
        told.tellTwo(had.failureSlot, had.failureWith);
        return had.failure;
    }

    public int spoilt(int x, int z) {
        if (!isStation(x) || !isStation(z) || x == z) {
            return NONE;
        }
        Had had = air.stations[x].had;
        told.tellOne(had.dataPlaces);
        return had.spoiltBy[z];
    }

    public int held(int s) {
        if (!isStation(s)) {
            return NONE;
        }
        Had had = air.stations[s].had;
        told.tellThree(had.heldBySpan, had.heldByHearing, had.heldElse);
        return had.heldBySpan + had.heldByHearing + had.heldElse;
    }

    public int even() {
        long all = 0;
        long squares = 0;
        for (int s = 0; s < air.many; s++) {
            long units = air.stations[s].had.tallies[UNITS_DELIVERED];
            all += units;
            squares += units * units;
        }
        if (all == 0) {
            return -2;
        }
        told.tellPart(all * all, air.many * squares);
        return 0;
    }

    public int busy() {
        told.tellTwo(air.slotsNone, air.slotsMore);
        return air.slotsOne;
    }

    public int odds(int n, int w) {
        if (n < 1 || n > MOST_ALIKE || w < 0 || w > MOST_ODDS_WINDOW) {
            return NONE;
        }
        told.tellPart(waysAlone(n, w), power(w + 1, n));
        return 0;
    }

    public int window(int n, int v) {
        if (n < 1 || n > MOST_ALIKE || v < 0 || v > 100) {
            return NONE;
        }
        for (int w = 0; w <= MOST_ODDS_WINDOW; w++) {
            if (100 * waysAlone(n, w) >= v * power(w + 1, n)) {
                return w;
            }
        }
        return -2;
    }

    // ---- what would be

    public int ahead(int n, int what) {
        if (n < 1 || n > MOST_SLOTS || what < 0 || what > 4) {
            return NONE;
        }
        trial.become(air);
        for (int i = 0; i < n; i++) {
            trial.passSlot();
        }
        switch (what) {
            case 0: return trial.sumOf(DELIVERED) - air.sumOf(DELIVERED);
            case 1: return trial.sumOf(LOST) - air.sumOf(LOST);
            case 2: return trial.sumOf(FAILED) - air.sumOf(FAILED);
            case 3: return trial.waiting();
            default: return trial.sending;
        }
    }

    public int quiet() {
        trial.become(air);
        for (int k = 0; k < MOST_ON && !trial.isQuiet(); k++) {
            trial.passSlot();
        }
        if (!trial.isQuiet()) {
            return -2;
        }
        told.tellOne(trial.sumOf(DELIVERED) - air.sumOf(DELIVERED));
        return trial.time - air.time;
    }

    public int next() {
        trial.become(air);
        for (int k = 0; k < MOST_ON; k++) {
            trial.passSlot();
            if (trial.beginning != 0) {
                told.tellOne(trial.beginning);
                return k;
            }
        }
        return -2;
    }

    public int soonest(int y) {
        if (!isStation(y)) {
            return NONE;
        }
        int best = -2;
        int least = MOST_ON + 1;
        for (int s = 0; s < air.many; s++) {
            if (air.whyNotOffer(s, 0, y, 1) == 0) {
                int takes = slotsTillDelivered(s, y);
                if (takes < least) {
                    least = takes;
                    best = s;
                }
            }
        }
        if (best >= 0) {
            told.tellOne(least);
        }
        return best;
    }

    // ---- days

    public int day() {
        int fault = faultInDay();
        if (fault >= 0) {
            text.length = 0;
            return -1 - fault;
        }
        trial.become(air);
        int done = 0;
        boolean stopped = false;
        int p = 0;
        for (int i = 0; i < MOST_SIGNS && p < text.length && !stopped; i++) {
            stopped = !doAct(p);
            done += stopped ? 0 : 1;
            p += actLength(p);
        }
        text.length = 0;
        told.tellTwo(stopped ? 1 : 0, air.sumOf(DELIVERED) - trial.sumOf(DELIVERED));
        if (done > 0) {
            past.push(trial);
        }
        return done;
    }

    public int undo() {
        return past.popInto(air) ? past.size : NONE;
    }

    public int years(int seed, int n) {
        if (n < 1 || n > MOST_TIMES) {
            return NONE;
        }
        trial.become(air);
        yearDice.seed = seed;
        for (int i = 0; i < n; i++) {
            if (yearDice.draw(3) < 2) {
                offerDrawn();
            } else {
                int many = yearDice.draw(8) + 1;
                for (int k = 0; k < many; k++) {
                    trial.passSlot();
                }
            }
        }
        told.tellThree(trial.sumOf(LOST) - air.sumOf(LOST), trial.waiting(), trial.time - air.time);
        return trial.sumOf(DELIVERED) - air.sumOf(DELIVERED);
    }

    // ---- kept

    public boolean keep(int i) {
        if (i < 0 || i >= MOST_KEPT) {
            return false;
        }
        kept[i].become(air);
        isKept[i] = true;
        return true;
    }

    public boolean again(int i) {
        if (i < 0 || i >= MOST_KEPT || !isKept[i]) {
            return false;
        }
        air.become(kept[i]);
        past.size = 0;
        return true;
    }

    public int count(int what) {
        switch (what) {
            case 0: return air.many;
            case 1: return air.time;
            case 2: return air.waiting();
            case 3: return air.exchangesOn();
            case 4: return past.size;
            case 5: return told.length;
            case 6: return text.length;
            case 7: return air.sumOf(DELIVERED);
            default: return NONE;
        }
    }

    public long row(int i) throws NoSuchElementException {
        if (i < 0 || i >= told.length) {
            throw new NoSuchElementException();
        }
        return told.numbers[i];
    }

    // ---- what the calls have in common

    private boolean isStation(int s) {
        return s >= 0 && s < air.many;
    }

    private static boolean isRank(int r) {
        return r >= 0 && r < RANKS;
    }

    /** Reads THE NET's pairs into the rows of pairs: the place of the sign that can't stand, or -1. */
    private int readPairs(int many) {
        for (int i = 0; i < pairs.length; i++) {
            pairs[i] = 0;
        }
        for (int p = 1; p < text.length; p += 3) {
            int a = text.letterAt(p, many);
            if (a < 0) {
                return p;
            }
            int b = text.letterAt(p + 1, many);
            if (b < 0 || b == a || pairs[a * MOST_STATIONS + b] != 0) {
                return p + 1;
            }
            int quality = text.digitAt(p + 2, 1, 3);
            if (quality < 0) {
                return p + 2;
            }
            pairs[a * MOST_STATIONS + b] = quality;
            pairs[b * MOST_STATIONS + a] = quality;
        }
        return -1;
    }

    private static int entryOf(int kind, int v) {
        if (kind == 0) {
            return (byte) v;
        }
        return kind == 1 ? (short) v : v;
    }

    private boolean comesFromEntry(int s, int rank, int entry) {
        int to = s + 1 < air.many ? s + 1 : 0;
        if (entry <= 0 || !air.hear(s, to)) {
            return false;
        }
        air.takeFrame(s, rank, to, entry % 9 + 1);
        return true;
    }

    /** In how many of the ways that n can DRAW one alone has the least. */
    private static long waysAlone(int n, int w) {
        long ways = 0;
        for (int above = 0; above <= w; above++) {
            ways += power(above, n - 1);
        }
        return n * ways;
    }

    private static long power(int base, int times) {
        long product = 1;
        for (int i = 0; i < times; i++) {
            product *= base;
        }
        return product;
    }

    private int slotsTillDelivered(int from, int to) {
        trial.become(air);
        trial.takeFrame(from, 0, to, 1);
        trial.markLast(from, 0);
        for (int k = 1; k <= MOST_ON; k++) {
            trial.passSlot();
            if (trial.markedCame) {
                return k;
            }
        }
        return MOST_ON + 1;
    }

    /** How many signs the ACT at p has. */
    private int actLength(int p) {
        int sign = text.at(p);
        if (sign == 'f') {
            return 5;
        }
        return sign == 's' ? 3 : 1;
    }

    /** The place of the first sign of THE TEXT that can't stand in A DAY, or -1. */
    private int faultInDay() {
        int p = 0;
        for (int i = 0; i < MOST_SIGNS && p < text.length; i++) {
            int fault = faultInAct(p);
            if (fault >= 0) {
                return fault;
            }
            p += actLength(p);
        }
        return -1;
    }

    private int faultInAct(int p) {
        int sign = text.at(p);
        if (sign == 'd') {
            return -1;
        }
        if (sign == 's') {
            if (text.digitAt(p + 1, 0, 9) < 0) {
                return p + 1;
            }
            return text.digitAt(p + 2, 0, 9) < 0 ? p + 2 : -1;
        }
        if (sign != 'f') {
            return p;
        }
        if (text.letterAt(p + 1, MOST_STATIONS) < 0) {
            return p + 1;
        }
        if (text.digitAt(p + 2, 0, RANKS - 1) < 0) {
            return p + 2;
        }
        if (text.letterAt(p + 3, MOST_STATIONS) < 0) {
            return p + 3;
        }
        return text.digitAt(p + 4, 1, MOST_UNITS) < 0 ? p + 4 : -1;
    }

    private boolean doAct(int p) {
        int sign = text.at(p);
        if (sign == 'd') {
            air.drawAll();
            return true;
        }
        if (sign == 's') {
            int many = 10 * text.digitAt(p + 1, 0, 9) + text.digitAt(p + 2, 0, 9);
            if (many < 1 || many > MOST_SLOTS) {
                return false;
            }
            for (int i = 0; i < many; i++) {
                air.passSlot();
            }
            return true;
        }
        int from = text.letterAt(p + 1, MOST_STATIONS);
        int rank = text.digitAt(p + 2, 0, RANKS - 1);
        int to = text.letterAt(p + 3, MOST_STATIONS);
        int units = text.digitAt(p + 4, 1, MOST_UNITS);
        if (air.whyNotOffer(from, rank, to, units) < 0) {
            return false;
        }
        air.takeFrame(from, rank, to, units);
        return true;
    }

    /** One offer of years(). */
    private void offerDrawn() {
        int from = yearDice.draw(MOST_STATIONS);
        int rank = yearDice.draw(RANKS);
        int to = yearDice.draw(MOST_STATIONS);
        int units = yearDice.draw(MOST_UNITS) + 1;
        if (trial.whyNotOffer(from, rank, to, units) == 0) {
            trial.takeFrame(from, rank, to, units);
        }
    }

    /** Who DRAWS, by a SEED. */
    private static final class Dice {
        private int seed;

        int draw(int n) {
            seed = seed * 1103515245 + 12345;
            return n < 1 ? 0 : (seed >>> 16) % n;
        }
    }

    /** THE TEXT. */
    private static final class Signs {
        private final int[] signs = new int[MOST_SIGNS];
        private int length;

        boolean addFour(int v) {
            if (length < 0 || length + 4 > MOST_SIGNS) {
                return false;
            }
            for (int i = 0; i < 4; i++) {
                signs[length + i] = (v >>> (24 - 8 * i)) & 255;
            }
            length += 4;
            return true;
        }

        boolean cutTo(int n) {
            if (n < 0 || n > length) {
                return false;
            }
            length = n;
            return true;
        }

        /** The sign at p, or -1 where THE TEXT has none. */
        int at(int p) {
            return p >= 0 && p < length ? signs[p] : -1;
        }

        /** The digit at p, or -1 if there is none from low to high. */
        int digitAt(int p, int low, int high) {
            int digit = at(p) - '0';
            return digit >= low && digit <= high ? digit : -1;
        }

        /** The number of the letter at p, or -1 if there is none of the first so many. */
        int letterAt(int p, int many) {
            int letter = at(p) - 'a';
            return letter >= 0 && letter < many ? letter : -1;
        }
    }

    /** The ROW. */
    private static final class Numbers {
        private final long[] numbers = new long[MOST_NUMBERS];
        private int length;

        void forget() {
            length = 0;
        }

        void add(long number) {
            if (length < MOST_NUMBERS) {
                numbers[length] = number;
                length++;
            }
        }

        void tellOne(long first) {
            forget();
            add(first);
        }

        void tellTwo(long first, long second) {
            tellOne(first);
            add(second);
        }

        void tellThree(long first, long second, long third) {
            tellTwo(first, second);
            add(third);
        }

        /** Tells a part (its lower above 0) in lowest terms. */
        void tellPart(long upper, long lower) {
            long a = upper;
            long b = lower;
            // Numbers of 64 bits need fewer than 100 steps.
            for (int i = 0; i < 100 && b != 0; i++) {
                long rest = a % b;
                a = b;
                b = rest;
            }
            if (a > 0) {
                tellTwo(upper / a, lower / a);
            }
        }
    }

    /** What can be undone: the latest Airs, each as it was ahead of a call. */
    private static final class Past {
        private final Air[] airs = new Air[MOST_UNDONE];
        private int size;
        private int latest;

        Past() {
            for (int i = 0; i < MOST_UNDONE; i++) {
                airs[i] = new Air();
            }
        }

        void push(Air air) {
            latest = latest + 1 < MOST_UNDONE ? latest + 1 : 0;
            airs[latest].become(air);
            if (size < MOST_UNDONE) {
                size++;
            }
        }

        boolean popInto(Air air) {
            if (size < 1) {
                return false;
            }
            air.become(airs[latest]);
            latest = latest > 0 ? latest - 1 : MOST_UNDONE - 1;
            size--;
            return true;
        }
    }

    /** The QUEUE of a RANK of a STATION, its WINDOW and its COUNT. */
    private static final class Queue {
        private final int[] frames = new int[MOST_FRAMES * FRAME_FIELDS];
        private int size;
        private int window;
        private int count;

        void become(Queue other) {
            System.arraycopy(other.frames, 0, frames, 0, frames.length);
            size = other.size;
            window = other.window;
            count = other.count;
        }

        /** A field of a FRAME; NONE where there is no such FRAME. */
        int fieldOf(int i, int field) {
            return i >= 0 && i < size ? frames[i * FRAME_FIELDS + field] : NONE;
        }

        void addLast(int to, int units, int time) {
            if (size < MOST_FRAMES) {
                int at = size * FRAME_FIELDS;
                frames[at + TO] = to;
                frames[at + UNITS] = units;
                frames[at + TRIED] = 0;
                frames[at + OFFERED] = time;
                frames[at + MARKED] = 0;
                size++;
            }
        }

        /** A FRAME was TRIED once more: how often it was. */
        int tryAgain(int i) {
            if (i < 0 || i >= size) {
                return 0;
            }
            frames[i * FRAME_FIELDS + TRIED]++;
            return frames[i * FRAME_FIELDS + TRIED];
        }

        void removeAt(int i) {
            if (i < 0 || i >= size) {
                return;
            }
            for (int at = (i + 1) * FRAME_FIELDS; at < size * FRAME_FIELDS; at++) {
                frames[at - FRAME_FIELDS] = frames[at];
            }
            size--;
        }

        /** How many of the first FRAMES are to the same STATION one behind another, some at most. */
        int alikeAtFirst(int most) {
            int alike = 0;
            for (int i = 0; i < size && i < most; i++) {
                if (fieldOf(i, TO) != fieldOf(0, TO)) {
                    break;
                }
                alike++;
            }
            return alike;
        }
    }

    /** The EXCHANGE of a STATION, if one goes on. */
    private static final class Exchange {
        private boolean goesOn;
        private int with;
        private int ofRank;
        private int frames;
        private int places;
        private int step;
        private int left;
        private int whole;
        private int end;
        // Why it will fail, as far as that is known.
        private int failure;
        // The FRAME whose PLACES go by, how many of them are left, and if one was spoilt.
        private int frameNow;
        private int placesNow;
        private boolean brokenNow;

        void become(Exchange other) {
            goesOn = other.goesOn;
            with = other.with;
            ofRank = other.ofRank;
            frames = other.frames;
            places = other.places;
            step = other.step;
            left = other.left;
            whole = other.whole;
            end = other.end;
            failure = other.failure;
            frameNow = other.frameNow;
            placesNow = other.placesNow;
            brokenNow = other.brokenNow;
        }

        boolean sends() {
            return goesOn && (step == ASK || step == DATA);
        }
    }

    /** What a STATION had since net(). */
    private static final class Had {
        private final int[] tallies = new int[TALLIES];
        private final int[] spoiltBy = new int[MOST_STATIONS];
        private int dataPlaces;
        private int failure;
        private int failureSlot;
        private int failureWith;
        private int heldBySpan;
        private int heldByHearing;
        private int heldElse;

        void become(Had other) {
            System.arraycopy(other.tallies, 0, tallies, 0, TALLIES);
            System.arraycopy(other.spoiltBy, 0, spoiltBy, 0, MOST_STATIONS);
            dataPlaces = other.dataPlaces;
            failure = other.failure;
            failureSlot = other.failureSlot;
            failureWith = other.failureWith;
            heldBySpan = other.heldBySpan;
            heldByHearing = other.heldByHearing;
            heldElse = other.heldElse;
        }

        void startAnew() {
            for (int i = 0; i < TALLIES; i++) {
                tallies[i] = 0;
            }
            for (int i = 0; i < MOST_STATIONS; i++) {
                spoiltBy[i] = 0;
            }
            dataPlaces = 0;
            failure = 0;
            failureSlot = 0;
            failureWith = 0;
            heldBySpan = 0;
            heldByHearing = 0;
            heldElse = 0;
        }

        void delivered(int units, int slotsTaken) {
            tallies[DELIVERED]++;
            tallies[UNITS_DELIVERED] += units;
            tallies[SLOTS_TAKEN] += slotsTaken;
            tallies[MOST_TAKEN] = Math.max(tallies[MOST_TAKEN], slotsTaken);
        }
    }

    private static final class Station {
        private final Queue[] queues = new Queue[RANKS];
        private final Exchange exchange = new Exchange();
        private final Had had = new Had();
        private final int[] qualities = new int[MOST_STATIONS];
        private final int[] rates = new int[MOST_STATIONS];
        private final int[] lucks = new int[MOST_STATIONS];
        private int hears;
        private int still;
        private int span;
        private int spanBy;
        private int spanStep;
        private int owesTo = NONE;
        private int owes;

        Station() {
            for (int r = 0; r < RANKS; r++) {
                queues[r] = new Queue();
            }
        }

        void become(Station other) {
            for (int r = 0; r < RANKS; r++) {
                queues[r].become(other.queues[r]);
            }
            exchange.become(other.exchange);
            had.become(other.had);
            System.arraycopy(other.qualities, 0, qualities, 0, MOST_STATIONS);
            System.arraycopy(other.rates, 0, rates, 0, MOST_STATIONS);
            System.arraycopy(other.lucks, 0, lucks, 0, MOST_STATIONS);
            hears = other.hears;
            still = other.still;
            span = other.span;
            spanBy = other.spanBy;
            spanStep = other.spanStep;
            owesTo = other.owesTo;
            owes = other.owes;
        }

        boolean isFree() {
            return !exchange.goesOn && owes == OWES_NOTHING;
        }

        int waiting() {
            int sum = 0;
            for (int r = 0; r < RANKS; r++) {
                sum += queues[r].size;
            }
            return sum;
        }

        void setOwing(int to, int what) {
            owesTo = to;
            owes = what;
        }

        /** If it owes that to x; what it owed to x is then gone. */
        boolean pays(int x, int what) {
            if (owesTo != x || owes != what) {
                return false;
            }
            setOwing(NONE, OWES_NOTHING);
            return true;
        }

        void listen(int by, int step, int until) {
            if (until > span) {
                span = until;
                spanBy = by;
                spanStep = step;
            }
        }
    }

    /** All that the document's 1. tells of, with what was had. */
    private static final class Air {
        private final int[] settings = new int[SEED];
        private final Dice dice = new Dice();
        private final Station[] stations = new Station[MOST_STATIONS];
        private int many;
        private int time;
        // Of the latest SLOT, as bits.
        private int sending;
        private int clear;
        private int ran;
        private int beginning;
        private int slotsOne;
        private int slotsNone;
        private int slotsMore;
        private boolean markedCame;

        Air() {
            System.arraycopy(SETTING_AT_FIRST, 0, settings, 0, SEED);
            dice.seed = SEED_AT_FIRST;
            for (int s = 0; s < MOST_STATIONS; s++) {
                stations[s] = new Station();
            }
        }

        void become(Air other) {
            System.arraycopy(other.settings, 0, settings, 0, SEED);
            dice.seed = other.dice.seed;
            for (int s = 0; s < other.many; s++) {
                stations[s].become(other.stations[s]);
            }
            many = other.many;
            time = other.time;
            sending = other.sending;
            clear = other.clear;
            ran = other.ran;
            beginning = other.beginning;
            slotsOne = other.slotsOne;
            slotsNone = other.slotsNone;
            slotsMore = other.slotsMore;
            markedCame = other.markedCame;
        }

        void startAnew(int howMany, int[] pairs) {
            many = howMany;
            time = 0;
            sending = 0;
            clear = 0;
            ran = 0;
            beginning = 0;
            slotsOne = 0;
            slotsNone = 0;
            slotsMore = 0;
            markedCame = false;
            for (int s = 0; s < many; s++) {
                startStation(s, pairs);
            }
        }

        private void startStation(int s, int[] pairs) {
            Station it = stations[s];
            it.hears = 0;
            for (int z = 0; z < MOST_STATIONS; z++) {
                int at = s * MOST_STATIONS + z;
                int quality = at < pairs.length ? pairs[at] : 0;
                it.qualities[z] = quality;
                it.rates[z] = 1;
                it.lucks[z] = 0;
                it.hears |= quality > 0 ? 1 << z : 0;
            }
            for (int r = 0; r < RANKS; r++) {
                it.queues[r].size = 0;
                it.queues[r].count = 0;
                it.queues[r].window = settings[LEAST_WINDOW + r];
            }
            it.still = 0;
            it.span = 0;
            it.spanBy = 0;
            it.spanStep = 0;
            it.exchange.goesOn = false;
            it.setOwing(NONE, OWES_NOTHING);
            it.had.startAnew();
        }

        boolean hear(int a, int b) {
            return a >= 0 && a < many && b >= 0 && b < many && (stations[a].hears >> b & 1) != 0;
        }

        int sumOf(int tally) {
            int sum = 0;
            for (int s = 0; s < many; s++) {
                sum += stations[s].had.tallies[tally];
            }
            return sum;
        }

        int waiting() {
            int sum = 0;
            for (int s = 0; s < many; s++) {
                sum += stations[s].waiting();
            }
            return sum;
        }

        int exchangesOn() {
            int sum = 0;
            for (int s = 0; s < many; s++) {
                sum += stations[s].exchange.goesOn ? 1 : 0;
            }
            return sum;
        }

        boolean isQuiet() {
            return waiting() == 0 && exchangesOn() == 0;
        }

        void emptyQueues(int rank) {
            for (int s = 0; s < many; s++) {
                stations[s].queues[rank].size = 0;
            }
        }

        /** What offers() answers if it refuses, or 0. */
        int whyNotOffer(int from, int rank, int to, int units) {
            if (from < 0 || from >= many || to < 0 || to >= many || from == to) {
                return NONE;
            }
            if (!isRank(rank) || units < 1 || units > MOST_UNITS) {
                return NONE;
            }
            if (!hear(from, to)) {
                return -3;
            }
            return stations[from].queues[rank].size >= MOST_FRAMES ? -2 : 0;
        }

        /** A FRAME that may come comes behind its QUEUE: how many that has. */
        int takeFrame(int from, int rank, int to, int units) {
            Queue queue = stations[from].queues[rank];
            queue.addLast(to, units, time);
            return queue.size;
        }

        void markLast(int s, int rank) {
            Queue queue = stations[s].queues[rank];
            if (queue.size > 0) {
                queue.frames[(queue.size - 1) * FRAME_FIELDS + MARKED] = 1;
            }
            markedCame = false;
        }

        int drawAll() {
            int drawn = 0;
            for (int s = 0; s < many; s++) {
                for (int r = 0; r < RANKS; r++) {
                    Queue queue = stations[s].queues[r];
                    if (queue.size > 0) {
                        queue.count = dice.draw(queue.window + 1);
                        drawn++;
                    }
                }
            }
            return drawn;
        }

        boolean isReady(int s, int rank) {
            Queue queue = stations[s].queues[rank];
            return queue.size > 0 && queue.count == 0 && settings[WAIT + rank] <= stations[s].still;
        }

        /** One SLOT, by the document's steps (a) to (g). */
        void passSlot() {
            ran = runningSpans();
            beginning = 0;
            for (int s = 0; s < many; s++) {
                if (stations[s].isFree() && stations[s].span <= time) {
                    beginOf(s);
                }
            }
            sending = senders();
            clear = clearOnes();
            noteSlot();
            for (int s = 0; s < many; s++) {
                Exchange it = stations[s].exchange;
                if (it.goesOn && it.with >= 0 && it.with < many) {
                    switch (it.step) {
                        case ASK: goAsk(s, it.with, it); break;
                        case GRANT: goGrant(s, it.with, it); break;
                        case DATA: goData(s, it.with, it); break;
                        default: goAnswer(s, it.with, it); break;
                    }
                }
            }
            for (int s = 0; s < many; s++) {
                settle(s);
            }
            time++;
        }

        private int runningSpans() {
            int bits = 0;
            for (int s = 0; s < many; s++) {
                bits |= stations[s].span > time ? 1 << s : 0;
            }
            return bits;
        }

        /** Step (a) of a STATION that may begin. */
        private void beginOf(int s) {
            int first = NONE;
            for (int r = 0; r < RANKS; r++) {
                if (isReady(s, r)) {
                    if (first == NONE) {
                        first = r;
                        beginExchange(s, r);
                    } else {
                        stations[s].had.tallies[MET_INSIDE]++;
                        failFirst(s, r);
                    }
                }
            }
        }

        private void beginExchange(int s, int rank) {
            Station x = stations[s];
            Exchange it = x.exchange;
            Queue queue = x.queues[rank];
            it.goesOn = true;
            it.with = queue.fieldOf(0, TO);
            it.ofRank = rank;
            it.frames = queue.alikeAtFirst(settings[TOGETHER]);
            it.places = 0;
            for (int i = 0; i < it.frames; i++) {
                it.places += placesOf(x, i);
            }
            boolean asks = it.places >= settings[ASKING];
            it.step = asks ? ASK : DATA;
            it.left = asks ? 1 : it.places;
            it.end = time + it.places + (asks ? 3 : 1);
            it.whole = 0;
            it.failure = 0;
            it.frameNow = 0;
            it.placesNow = placesOf(x, 0);
            it.brokenNow = false;
            x.had.tallies[BEGUN]++;
            beginning |= 1 << s;
        }

        /** PLACES of a FRAME of the EXCHANGE of a STATION. */
        private static int placesOf(Station x, int i) {
            Exchange it = x.exchange;
            if (it.with < 0 || it.with >= MOST_STATIONS || it.ofRank < 0 || it.ofRank >= RANKS) {
                return 0;
            }
            int rate = Math.max(1, x.rates[it.with]);
            int units = Math.max(0, x.queues[it.ofRank].fieldOf(i, UNITS));
            return (units + rate - 1) / rate;
        }

        /** Step (b): who SENDS. */
        private int senders() {
            int bits = 0;
            for (int s = 0; s < many; s++) {
                Station it = stations[s];
                bits |= it.exchange.sends() || it.owes != OWES_NOTHING ? 1 << s : 0;
            }
            return bits;
        }

        private boolean sendsNow(int s) {
            return (sending >> s & 1) != 0;
        }

        private boolean isClear(int z, int x) {
            return !sendsNow(z) && (stations[z].hears & sending) == 1 << x;
        }

        private int clearOnes() {
            int bits = 0;
            for (int z = 0; z < many; z++) {
                boolean one = Integer.bitCount(stations[z].hears & sending) == 1;
                bits |= one && !sendsNow(z) ? 1 << z : 0;
            }
            return bits;
        }

        /** What is had of this SLOT by who SENDS in it. */
        private void noteSlot() {
            int senders = Integer.bitCount(sending);
            slotsNone += senders == 0 ? 1 : 0;
            slotsOne += senders == 1 ? 1 : 0;
            slotsMore += senders > 1 ? 1 : 0;
            for (int s = 0; s < many; s++) {
                Station it = stations[s];
                it.had.tallies[SLOTS_SENT] += sendsNow(s) ? 1 : 0;
                if (it.isFree() && it.waiting() > 0) {
                    if ((ran >> s & 1) != 0) {
                        it.had.heldBySpan++;
                    } else if ((it.hears & sending) != 0) {
                        it.had.heldByHearing++;
                    } else {
                        it.had.heldElse++;
                    }
                }
            }
        }

        /** All but one that are CLEAR for who SENDS hear of the SPAN of the EXCHANGE of x. */
        private void spread(int from, int but, int x, int step, int until) {
            for (int s = 0; s < many; s++) {
                if (s != but && isClear(s, from)) {
                    stations[s].listen(x, step, until);
                }
            }
        }

        private void goAsk(int x, int y, Exchange it) {
            if (!isClear(y, x)) {
                it.failure = NOT_CLEAR_IN_ASK;
            } else if (!stations[y].isFree()) {
                it.failure = NOT_FREE_IN_ASK;
            } else if (stations[y].span > time) {
                it.failure = SPAN_RAN_IN_ASK;
            } else {
                stations[y].setOwing(x, OWES_GRANT);
            }
            spread(x, y, x, ASK, it.end);
            it.step = GRANT;
        }

        private void goGrant(int x, int y, Exchange it) {
            boolean sendsIt = stations[y].pays(x, OWES_GRANT);
            if (sendsIt && isClear(x, y)) {
                it.step = DATA;
                it.left = it.places;
                spread(y, x, x, GRANT, it.end);
            } else {
                it.failure = sendsIt ? NOT_CLEAR_IN_GRANT : it.failure;
                failExchange(x, it);
            }
        }

        private void goData(int x, int y, Exchange it) {
            boolean isClear = isClear(y, x);
            stations[x].had.dataPlaces++;
            if (!isClear) {
                noteSpoilt(stations[x].had, stations[y].hears & sending);
            }
            goPlace(stations[x], isClear);
            it.left--;
            if (it.left > 0) {
                return;
            }
            spread(x, y, x, DATA, time + 2);
            if (it.whole == 0) {
                it.failure = NOTHING_WHOLE;
            } else if (!stations[y].isFree()) {
                it.failure = NOT_FREE_BEHIND_DATA;
            } else {
                stations[y].setOwing(x, OWES_ANSWER);
            }
            it.step = ANSWER;
        }

        private static void noteSpoilt(Had had, int heard) {
            for (int z = 0; z < MOST_STATIONS; z++) {
                had.spoiltBy[z] += (heard >> z & 1) != 0 ? 1 : 0;
            }
        }

        /** One PLACE of DATA of a STATION goes by. */
        private static void goPlace(Station x, boolean isClear) {
            Exchange it = x.exchange;
            if (!isClear || x.qualities[it.with] < x.rates[it.with]) {
                it.brokenNow = true;
            }
            it.placesNow--;
            if (it.placesNow <= 0) {
                it.whole |= it.brokenNow ? 0 : 1 << it.frameNow;
                it.frameNow++;
                it.placesNow = placesOf(x, it.frameNow);
                it.brokenNow = false;
            }
        }

        private void goAnswer(int x, int y, Exchange it) {
            boolean sendsIt = stations[y].pays(x, OWES_ANSWER);
            Station sender = stations[x];
            if (sendsIt && isClear(x, y)) {
                it.goesOn = false;
                deliver(x, it);
                sender.lucks[y]++;
                if (sender.lucks[y] >= 3) {
                    sender.rates[y] = Math.min(MOST_RATE, sender.rates[y] + 1);
                    sender.lucks[y] = 0;
                }
            } else {
                it.failure = sendsIt ? NOT_CLEAR_IN_ANSWER : it.failure;
                failExchange(x, it);
                sender.rates[y] = Math.max(1, sender.rates[y] - 1);
                sender.lucks[y] = 0;
            }
        }

        private void deliver(int x, Exchange it) {
            Station sender = stations[x];
            Queue queue = sender.queues[it.ofRank];
            // From the last one back, so that those ahead keep their places in the QUEUE.
            for (int i = it.frames - 1; i >= 0; i--) {
                if ((it.whole >> i & 1) != 0) {
                    int taken = time - queue.fieldOf(i, OFFERED) + 1;
                    sender.had.delivered(queue.fieldOf(i, UNITS), taken);
                    markedCame |= queue.fieldOf(i, MARKED) == 1;
                    queue.removeAt(i);
                } else if (queue.tryAgain(i) >= settings[TRIES]) {
                    sender.had.tallies[LOST]++;
                    queue.removeAt(i);
                }
            }
            queue.window = settings[LEAST_WINDOW + it.ofRank];
            queue.count = dice.draw(queue.window + 1);
        }

        /** Step (f), but for RATE and LUCK. */
        private void failExchange(int x, Exchange it) {
            it.goesOn = false;
            Had had = stations[x].had;
            had.tallies[FAILED]++;
            had.failure = it.failure;
            had.failureSlot = time;
            had.failureWith = it.with;
            failFirst(x, it.ofRank);
        }

        /** The first FRAME of a RANK was TRIED in vain. */
        private void failFirst(int s, int rank) {
            Queue queue = stations[s].queues[rank];
            if (queue.tryAgain(0) >= settings[TRIES]) {
                stations[s].had.tallies[LOST]++;
                queue.removeAt(0);
                queue.window = settings[LEAST_WINDOW + rank];
            } else {
                queue.window = Math.min(settings[GREATEST_WINDOW], 2 * queue.window + 1);
            }
            queue.count = dice.draw(queue.window + 1);
        }

        /** Step (g) of a STATION. */
        private void settle(int s) {
            Station it = stations[s];
            boolean isStill = !sendsNow(s) && (it.hears & sending) == 0 && (ran >> s & 1) == 0;
            it.still = isStill ? it.still + 1 : 0;
            for (int r = 0; r < RANKS; r++) {
                Queue queue = it.queues[r];
                if (queue.size > 0 && queue.count > 0 && it.still > settings[WAIT + r]) {
                    queue.count--;
                }
            }
        }
    }
}
