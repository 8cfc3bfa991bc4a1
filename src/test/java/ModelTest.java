import java.util.ArrayList;
import java.util.List;
import java.util.NoSuchElementException;
import java.util.Random;

/**
 * Random runs of calls on SharedAir beside a plain second reading of the document (the Model, which
 * copies its whole world wherever the document says "would be", "kept" or "undone", and which answers
 * what was had out of a log). Every answer, the ROW behind every call and, now and then, all that can
 * be asked must be the same.
 */
public final class ModelTest {
    private static int wrong = 0;

    public static void main(String[] args) {
        long answers = 0;
        for (int run = 1; run <= 1000 && wrong < 10; run++) {
            answers += new Run(run).go();
        }
        System.out.println(wrong == 0 ? answers + " answers are as the model's" : "some answers are not as the model's");
        if (wrong != 0) {
            System.exit(1);
        }
    }

    // ---- the model

    static final class Frame {
        int to;
        int units;
        int tried;
        int offered;
        boolean marked;

        Frame copy() {
            Frame f = new Frame();
            f.to = to;
            f.units = units;
            f.tried = tried;
            f.offered = offered;
            f.marked = marked;
            return f;
        }
    }

    static final class Talk {
        int y;
        int rank;
        int frames;
        boolean asks;
        int d;
        int begun;
        int phase; // 0 ASK .. 3 ANSWER
        int[] frameOfPlace;
        List<Boolean> good = new ArrayList<>();
        int reason;

        Talk copy() {
            Talk t = new Talk();
            t.y = y;
            t.rank = rank;
            t.frames = frames;
            t.asks = asks;
            t.d = d;
            t.begun = begun;
            t.phase = phase;
            t.frameOfPlace = frameOfPlace;
            t.good = new ArrayList<>(good);
            t.reason = reason;
            return t;
        }

        int end() {
            return begun + (asks ? 2 : 0) + d + 1;
        }

        boolean whole(int frame) {
            for (int p = 0; p < d; p++) {
                if (frameOfPlace[p] == frame && (p >= good.size() || !good.get(p))) {
                    return false;
                }
            }
            return true;
        }

        int wholeBits() {
            int bits = 0;
            for (int f = 0; f < frames; f++) {
                if (whole(f)) {
                    bits |= 1 << f;
                }
            }
            return bits;
        }
    }

    /** What happened: kinds "delivered", "lost", "begun", "failed", "inside", "place". */
    record Event(String kind, int slot, int x, int y, int a, int b) {
    }

    record Slot(int sending, int clear, int ran, int beginning, int freeWaiting) {
    }

    static final class World {
        int many;
        int t;
        int[] settings = {5, 2, 4, 2, 2, 3, 6, 3, 7, 15, 15, 31, 1};
        int[][] quality = new int[6][6];
        int[][] rate = new int[6][6];
        int[][] luck = new int[6][6];
        List<List<List<Frame>>> queues = new ArrayList<>();
        int[][] window = new int[6][4];
        int[][] count = new int[6][4];
        int[] still = new int[6];
        int[] span = new int[6];
        int[] spanBy = new int[6];
        int[] spanStep = new int[6];
        int[] owesTo = {-1, -1, -1, -1, -1, -1};
        int[] owes = new int[6];
        Talk[] talks = new Talk[6];
        List<Event> events = new ArrayList<>();
        List<Slot> slots = new ArrayList<>();
        int markedAt = -1;

        World copy() {
            World w = new World();
            w.many = many;
            w.t = t;
            w.settings = settings.clone();
            for (int i = 0; i < 6; i++) {
                w.quality[i] = quality[i].clone();
                w.rate[i] = rate[i].clone();
                w.luck[i] = luck[i].clone();
                w.window[i] = window[i].clone();
                w.count[i] = count[i].clone();
                w.talks[i] = talks[i] == null ? null : talks[i].copy();
            }
            for (List<List<Frame>> ofStation : queues) {
                List<List<Frame>> mine = new ArrayList<>();
                for (List<Frame> q : ofStation) {
                    List<Frame> mineToo = new ArrayList<>();
                    for (Frame f : q) {
                        mineToo.add(f.copy());
                    }
                    mine.add(mineToo);
                }
                w.queues.add(mine);
            }
            w.still = still.clone();
            w.span = span.clone();
            w.spanBy = spanBy.clone();
            w.spanStep = spanStep.clone();
            w.owesTo = owesTo.clone();
            w.owes = owes.clone();
            w.events = new ArrayList<>(events);
            w.slots = new ArrayList<>(slots);
            w.markedAt = markedAt;
            return w;
        }

        void anew(int n, int[][] q) {
            World fresh = new World();
            many = n;
            t = 0;
            quality = q;
            rate = fresh.rate;
            luck = fresh.luck;
            queues = fresh.queues;
            window = fresh.window;
            count = fresh.count;
            still = fresh.still;
            span = fresh.span;
            spanBy = fresh.spanBy;
            spanStep = fresh.spanStep;
            owesTo = fresh.owesTo;
            owes = fresh.owes;
            talks = fresh.talks;
            events = fresh.events;
            slots = fresh.slots;
            for (int s = 0; s < n; s++) {
                List<List<Frame>> qs = new ArrayList<>();
                for (int r = 0; r < 4; r++) {
                    qs.add(new ArrayList<>());
                    window[s][r] = settings[7 + r];
                }
                queues.add(qs);
                for (int z = 0; z < 6; z++) {
                    rate[s][z] = 1;
                }
            }
        }

        boolean st(int s) {
            return s >= 0 && s < many;
        }

        List<Frame> q(int s, int r) {
            return queues.get(s).get(r);
        }

        int draw(int n) {
            settings[12] = settings[12] * 1103515245 + 12345;
            return (int) (((settings[12] & 0xffffffffL) / 65536) % n);
        }

        boolean free(int s) {
            return talks[s] == null && owes[s] == 0;
        }

        boolean ready(int s, int r) {
            return !q(s, r).isEmpty() && count[s][r] == 0 && settings[3 + r] <= still[s];
        }

        int hears(int s) {
            int bits = 0;
            for (int z = 0; z < 6; z++) {
                bits |= quality[s][z] > 0 ? 1 << z : 0;
            }
            return bits;
        }

        boolean sends(int s) {
            return sendsThis[s];
        }

        boolean[] sendsThis = new boolean[6];

        boolean clear(int z, int x) {
            if (quality[z][x] == 0 || !sends(x) || sends(z)) {
                return false;
            }
            for (int o = 0; o < many; o++) {
                if (o != x && o != z && quality[z][o] > 0 && sends(o)) {
                    return false;
                }
            }
            return true;
        }

        int waiting(int s) {
            int n = 0;
            for (List<Frame> q : queues.get(s)) {
                n += q.size();
            }
            return n;
        }

        int waitingAll() {
            int n = 0;
            for (int s = 0; s < many; s++) {
                n += waiting(s);
            }
            return n;
        }

        int talksOn() {
            int n = 0;
            for (Talk talk : talks) {
                n += talk != null ? 1 : 0;
            }
            return n;
        }

        int happened(String kind, int x) {
            int n = 0;
            for (Event e : events) {
                n += e.kind.equals(kind) && (x < 0 || e.x == x) ? 1 : 0;
            }
            return n;
        }

        void begin(int s, int r) {
            Talk talk = new Talk();
            List<Frame> q = q(s, r);
            talk.y = q.get(0).to;
            talk.rank = r;
            talk.begun = t;
            List<Integer> of = new ArrayList<>();
            while (talk.frames < settings[1] && talk.frames < q.size() && q.get(talk.frames).to == talk.y) {
                int units = q.get(talk.frames).units;
                for (int gone = 0; gone < units; gone += rate[s][talk.y]) {
                    of.add(talk.frames);
                }
                talk.frames++;
            }
            talk.d = of.size();
            talk.frameOfPlace = new int[talk.d];
            for (int p = 0; p < talk.d; p++) {
                talk.frameOfPlace[p] = of.get(p);
            }
            talk.asks = talk.d >= settings[0];
            talk.phase = talk.asks ? 0 : 2;
            talks[s] = talk;
            events.add(new Event("begun", t, s, talk.y, 0, 0));
        }

        void failFirst(int s, int r) {
            Frame f = q(s, r).get(0);
            f.tried++;
            if (f.tried >= settings[2]) {
                q(s, r).remove(0);
                events.add(new Event("lost", t, s, f.to, 0, 0));
                window[s][r] = settings[7 + r];
            } else {
                window[s][r] = Math.min(window[s][r] * 2 + 1, settings[11]);
            }
            count[s][r] = draw(window[s][r] + 1);
        }

        void fail(int s) {
            Talk talk = talks[s];
            talks[s] = null;
            events.add(new Event("failed", t, s, talk.y, talk.reason, 0));
            failFirst(s, talk.rank);
        }

        void hearOf(int from, int but, int x, int step, int end) {
            for (int z = 0; z < many; z++) {
                if (z != but && z != from && clear(z, from) && end > span[z]) {
                    span[z] = end;
                    spanBy[z] = x;
                    spanStep[z] = step;
                }
            }
        }

        void slot() {
            int ran = 0;
            for (int s = 0; s < many; s++) {
                ran |= t < span[s] ? 1 << s : 0;
            }
            int beginning = 0;
            for (int s = 0; s < many; s++) {
                if (!free(s) || t < span[s]) {
                    continue;
                }
                boolean begun = false;
                for (int r = 0; r < 4; r++) {
                    if (ready(s, r) && begun) {
                        events.add(new Event("inside", t, s, -1, 0, 0));
                        failFirst(s, r);
                    } else if (ready(s, r)) {
                        begin(s, r);
                        begun = true;
                        beginning |= 1 << s;
                    }
                }
            }
            int sending = 0;
            int freeWaiting = 0;
            for (int s = 0; s < many; s++) {
                sendsThis[s] = owes[s] != 0 || talks[s] != null && (talks[s].phase == 0 || talks[s].phase == 2);
                sending |= sendsThis[s] ? 1 << s : 0;
                freeWaiting |= free(s) && waiting(s) > 0 ? 1 << s : 0;
            }
            int clearBits = 0;
            for (int z = 0; z < many; z++) {
                for (int x = 0; x < many; x++) {
                    clearBits |= clear(z, x) ? 1 << z : 0;
                }
            }
            slots.add(new Slot(sending, clearBits, ran, beginning, freeWaiting));
            for (int x = 0; x < many; x++) {
                if (talks[x] != null) {
                    step(x, talks[x]);
                }
            }
            for (int s = 0; s < many; s++) {
                boolean disturbed = sends(s) || (hears(s) & sending) != 0 || (ran >> s & 1) == 1;
                still[s] = disturbed ? 0 : still[s] + 1;
                for (int r = 0; r < 4; r++) {
                    if (!q(s, r).isEmpty() && count[s][r] > 0 && still[s] > settings[3 + r]) {
                        count[s][r]--;
                    }
                }
            }
            t++;
        }

        void step(int x, Talk talk) {
            int y = talk.y;
            if (talk.phase == 0) {
                talk.reason = !clear(y, x) ? 1 : !free(y) ? 2 : t < span[y] ? 3 : 0;
                if (talk.reason == 0) {
                    owesTo[y] = x;
                    owes[y] = 1;
                }
                hearOf(x, y, x, 0, talk.end());
                talk.phase = 1;
            } else if (talk.phase == 1) {
                boolean granted = owes[y] == 1 && owesTo[y] == x;
                if (granted) {
                    owes[y] = 0;
                    owesTo[y] = -1;
                }
                if (granted && clear(x, y)) {
                    talk.phase = 2;
                    hearOf(y, x, x, 1, talk.end());
                } else {
                    talk.reason = granted ? 4 : talk.reason;
                    fail(x);
                }
            } else if (talk.phase == 2) {
                boolean clear = clear(y, x);
                int spoilers = 0;
                for (int z = 0; z < many; z++) {
                    spoilers |= !clear && z != x && z != y && sends(z) && quality[y][z] > 0 ? 1 << z : 0;
                }
                events.add(new Event("place", t, x, y, spoilers, 0));
                talk.good.add(clear && quality[x][y] >= rate[x][y]);
                if (talk.good.size() == talk.d) {
                    talk.phase = 3;
                    hearOf(x, y, x, 2, t + 2);
                    talk.reason = talk.wholeBits() == 0 ? 5 : !free(y) ? 6 : 0;
                    if (talk.reason == 0) {
                        owes[y] = 2;
                        owesTo[y] = x;
                    }
                }
            } else {
                boolean answered = owes[y] == 2 && owesTo[y] == x;
                if (answered) {
                    owes[y] = 0;
                    owesTo[y] = -1;
                }
                if (answered && clear(x, y)) {
                    deliver(x, talk);
                } else {
                    talk.reason = answered ? 7 : talk.reason;
                    fail(x);
                    rate[x][y] = rate[x][y] > 1 ? rate[x][y] - 1 : 1;
                    luck[x][y] = 0;
                }
            }
        }

        void deliver(int x, Talk talk) {
            int y = talk.y;
            List<Frame> q = q(x, talk.rank);
            List<Frame> stay = new ArrayList<>();
            for (int f = 0; f < q.size(); f++) {
                Frame frame = q.get(f);
                if (f >= talk.frames) {
                    stay.add(frame);
                } else if (talk.whole(f)) {
                    events.add(new Event("delivered", t, x, y, frame.units, t - frame.offered + 1));
                    if (frame.marked) {
                        markedAt = t;
                    }
                } else {
                    frame.tried++;
                    if (frame.tried >= settings[2]) {
                        events.add(new Event("lost", t, x, y, 0, 0));
                    } else {
                        stay.add(frame);
                    }
                }
            }
            q.clear();
            q.addAll(stay);
            talks[x] = null;
            window[x][talk.rank] = settings[7 + talk.rank];
            count[x][talk.rank] = draw(window[x][talk.rank] + 1);
            luck[x][y]++;
            if (luck[x][y] == 3) {
                luck[x][y] = 0;
                if (rate[x][y] < 3) {
                    rate[x][y]++;
                }
            }
        }

        int offer(int from, int rank, int to, int units) {
            if (!st(from) || !st(to) || from == to || rank < 0 || rank > 3 || units < 1 || units > 9) {
                return -1;
            }
            if (quality[from][to] == 0) {
                return -3;
            }
            if (q(from, rank).size() == 8) {
                return -2;
            }
            Frame f = new Frame();
            f.to = to;
            f.units = units;
            f.offered = t;
            q(from, rank).add(f);
            return q(from, rank).size();
        }

        int drawAll() {
            int n = 0;
            for (int s = 0; s < many; s++) {
                for (int r = 0; r < 4; r++) {
                    if (!q(s, r).isEmpty()) {
                        count[s][r] = draw(window[s][r] + 1);
                        n++;
                    }
                }
            }
            return n;
        }
    }

    static final class Model {
        World w = new World();
        List<World> past = new ArrayList<>();
        World[] kept = new World[2];
        String text = "";
        long[] row = {};

        void saved(World before) {
            past.add(before);
            if (past.size() > 6) {
                past.remove(0);
            }
        }

        void tell(long... numbers) {
            row = numbers;
        }

        int sign(int v) {
            if (text.length() + 4 > 80) {
                return -1;
            }
            for (int shift = 24; shift >= 0; shift -= 8) {
                text += (char) (v >> shift & 255);
            }
            return text.length();
        }

        boolean end(int n) {
            if (n < 0 || n > text.length()) {
                return false;
            }
            text = text.substring(0, n);
            return true;
        }

        int net() {
            String told = text + "\0";
            text = "";
            if (told.charAt(0) < '1' || told.charAt(0) > '6') {
                return -1;
            }
            int n = told.charAt(0) - '0';
            int[][] q = new int[6][6];
            int pairs = 0;
            for (int p = 1; p < told.length() - 1; p += 3) {
                int a = told.charAt(p) - 'a';
                if (a < 0 || a >= n) {
                    return -1 - p;
                }
                int b = told.charAt(p + 1) - 'a';
                if (b < 0 || b >= n || a == b || q[a][b] > 0) {
                    return -2 - p;
                }
                char c = p + 2 < told.length() ? told.charAt(p + 2) : '\0';
                if (c < '1' || c > '3') {
                    return -3 - p;
                }
                q[a][b] = c - '0';
                q[b][a] = c - '0';
                pairs++;
            }
            saved(w.copy());
            w.anew(n, q);
            return pairs;
        }

        int sets(int what, int v) {
            int[] most = {10, 4, 7, 9, 9, 9, 9, 31, 31, 31, 31, 63};
            if (what < 0 || what > 12 || what < 12 && (v < 1 || v > most[what])) {
                return -1;
            }
            if (what < 12 && w.settings[what] == v) {
                return -2;
            }
            saved(w.copy());
            int was = w.settings[what];
            w.settings[what] = v;
            return what == 12 ? 100 : 100 + was;
        }

        int sheet(int rank, int kind, int n, int f, int step) {
            if (rank < 0 || rank > 3 || kind < 0 || kind > 3 || n > 6) {
                return -1;
            }
            if (w.talksOn() > 0) {
                return -4;
            }
            if (kind < 3 && n < 0) {
                return -2;
            }
            for (int s = 0; s < w.many; s++) {
                w.q(s, rank).clear();
            }
            if (kind == 3) {
                return -3;
            }
            int came = 0;
            for (int k = 0; k < Math.min(n, w.many); k++) {
                int v = f;
                for (int i = 0; i < k; i++) {
                    v += step;
                }
                int entry = kind == 0 ? (byte) v : kind == 1 ? (short) v : v;
                if (entry > 0 && w.offer(k, rank, (k + 1) % w.many, entry % 9 + 1) > 0) {
                    came++;
                }
            }
            return came;
        }

        int offers(int from, int rank, int to, int units) {
            World before = w.copy();
            int answer = w.offer(from, rank, to, units);
            if (answer > 0) {
                saved(before);
            }
            return answer;
        }

        int slots(int n) {
            if (n < 1 || n > 60) {
                return -1;
            }
            World before = w.copy();
            for (int i = 0; i < n; i++) {
                w.slot();
            }
            saved(before);
            tell(w.happened("lost", -1) - before.happened("lost", -1), w.happened("failed", -1) - before.happened("failed", -1),
                w.happened("inside", -1) - before.happened("inside", -1));
            return w.happened("delivered", -1) - before.happened("delivered", -1);
        }

        int draws() {
            saved(w.copy());
            return w.drawAll();
        }

        int station(int s, int what) {
            if (!w.st(s) || what < 0 || what > 6) {
                throw new NoSuchElementException();
            }
            int[] all = {w.still[s], w.span[s], w.free(s) ? 1 : 0, w.owesTo[s], w.owes[s], w.hears(s), w.waiting(s)};
            return all[what];
        }

        int rank(int s, int r, int what) {
            if (!w.st(s) || r < 0 || r > 3 || what < 0 || what > 3) {
                throw new NoSuchElementException();
            }
            int[] all = {w.q(s, r).size(), w.count[s][r], w.window[s][r], w.ready(s, r) ? 1 : 0};
            return all[what];
        }

        int frame(int s, int r, int i, int what) {
            if (!w.st(s) || r < 0 || r > 3 || what < 0 || what > 3 || i < 0 || i >= w.q(s, r).size()) {
                throw new NoSuchElementException();
            }
            Frame f = w.q(s, r).get(i);
            int[] all = {f.to, f.units, f.tried, f.offered};
            return all[what];
        }

        int exchange(int s, int what) {
            if (!w.st(s) || w.talks[s] == null || what < 0 || what > 6) {
                return -1;
            }
            Talk k = w.talks[s];
            int[] all = {k.y, k.rank, k.frames, k.d, k.phase, k.phase == 2 ? k.d - k.good.size() : 1, k.wholeBits()};
            return all[what];
        }

        int sent() {
            if (w.slots.isEmpty()) {
                return -2;
            }
            Slot last = w.slots.get(w.slots.size() - 1);
            tell(last.clear, last.ran);
            return last.sending;
        }

        int spanOf(int s) {
            if (!w.st(s)) {
                return -1;
            }
            if (w.span[s] <= w.t) {
                return -2;
            }
            tell(w.spanStep[s], w.span[s] - w.t);
            return w.spanBy[s];
        }

        int rate(int a, int b) {
            if (!w.st(a) || !w.st(b) || a == b) {
                return -1;
            }
            if (w.quality[a][b] == 0) {
                return -2;
            }
            tell(w.luck[a][b], w.quality[a][b]);
            return w.rate[a][b];
        }

        int hidden() {
            List<Long> found = new ArrayList<>();
            for (int a = 0; a < w.many; a++) {
                for (int b = a + 1; b < w.many; b++) {
                    boolean third = false;
                    for (int c = 0; c < w.many; c++) {
                        third |= w.quality[a][c] > 0 && w.quality[b][c] > 0;
                    }
                    if (third && w.quality[a][b] == 0) {
                        found.add(6L * a + b);
                    }
                }
            }
            row = new long[found.size()];
            for (int i = 0; i < row.length; i++) {
                row[i] = found.get(i);
            }
            return row.length;
        }

        int tally(int s, int what) {
            if (!w.st(s) || what < 0 || what > 8) {
                throw new NoSuchElementException();
            }
            int units = 0;
            int took = 0;
            int most = 0;
            for (Event e : w.events) {
                if (e.kind.equals("delivered") && e.x == s) {
                    units += e.a;
                    took += e.b;
                    most = Math.max(most, e.b);
                }
            }
            int sending = 0;
            for (Slot slot : w.slots) {
                sending += slot.sending >> s & 1;
            }
            int[] all = {w.happened("delivered", s), units, w.happened("lost", s), w.happened("begun", s),
                w.happened("failed", s), sending, w.happened("inside", s), took, most};
            return all[what];
        }

        int why(int s) {
            if (!w.st(s)) {
                return -1;
            }
            Event last = null;
            for (Event e : w.events) {
                last = e.kind.equals("failed") && e.x == s ? e : last;
            }
            if (last == null) {
                return -2;
            }
            tell(last.slot, last.y);
            return last.a;
        }

        int spoilt(int x, int z) {
            if (!w.st(x) || !w.st(z) || x == z) {
                return -1;
            }
            int n = 0;
            for (Event e : w.events) {
                n += e.kind.equals("place") && e.x == x ? e.a >> z & 1 : 0;
            }
            tell(w.happened("place", x));
            return n;
        }

        int held(int s) {
            if (!w.st(s)) {
                return -1;
            }
            int[] n = new int[3];
            for (Slot slot : w.slots) {
                if ((slot.freeWaiting >> s & 1) == 1) {
                    n[(slot.ran >> s & 1) == 1 ? 0 : (w.hears(s) & slot.sending) != 0 ? 1 : 2]++;
                }
            }
            tell(n[0], n[1], n[2]);
            return n[0] + n[1] + n[2];
        }

        long[] lowest(long up, long low) {
            for (long d = 2; d <= Math.min(up, low); d++) {
                while (up % d == 0 && low % d == 0) {
                    up /= d;
                    low /= d;
                }
            }
            return up == 0 ? new long[] {0, 1} : new long[] {up, low};
        }

        int even() {
            long sum = 0;
            long squares = 0;
            for (int s = 0; s < w.many; s++) {
                long units = tally(s, 1);
                sum += units;
                squares += units * units;
            }
            if (sum == 0) {
                return -2;
            }
            java.math.BigInteger up = java.math.BigInteger.valueOf(sum * sum);
            java.math.BigInteger low = java.math.BigInteger.valueOf(w.many * squares);
            java.math.BigInteger d = up.gcd(low);
            tell(up.divide(d).longValue(), low.divide(d).longValue());
            return 0;
        }

        int busy() {
            int[] n = new int[3];
            for (Slot slot : w.slots) {
                n[Math.min(2, Integer.bitCount(slot.sending))]++;
            }
            tell(n[0], n[2]);
            return n[1];
        }

        /** By how many of all the ways; all of them are walked through for few, else by who is the least. */
        long[] odds(int n, int width) {
            long ways = 0;
            long all = 1;
            for (int i = 0; i < n; i++) {
                all *= width + 1;
            }
            for (int least = 0; least <= width; least++) {
                long others = 1;
                for (int i = 1; i < n; i++) {
                    others *= width - least;
                }
                ways += n * others;
            }
            return lowest(ways, all);
        }

        int oddsAnswer(int n, int width) {
            if (n < 1 || n > 5 || width < 0 || width > 31) {
                return -1;
            }
            row = odds(n, width);
            return 0;
        }

        int window(int n, int v) {
            if (n < 1 || n > 5 || v < 0 || v > 100) {
                return -1;
            }
            for (int width = 0; width <= 31; width++) {
                long[] part = odds(n, width);
                if (part[0] * 100 >= v * part[1]) {
                    return width;
                }
            }
            return -2;
        }

        int ahead(int n, int what) {
            if (n < 1 || n > 60 || what < 0 || what > 4) {
                return -1;
            }
            World x = w.copy();
            for (int i = 0; i < n; i++) {
                x.slot();
            }
            int[] all = {x.happened("delivered", -1) - w.happened("delivered", -1), x.happened("lost", -1) - w.happened("lost", -1),
                x.happened("failed", -1) - w.happened("failed", -1), x.waitingAll(), x.slots.get(x.slots.size() - 1).sending};
            return all[what];
        }

        int quiet() {
            World x = w.copy();
            int k = 0;
            while (x.waitingAll() > 0 || x.talksOn() > 0) {
                if (k == 99) {
                    return -2;
                }
                x.slot();
                k++;
            }
            tell(x.happened("delivered", -1) - w.happened("delivered", -1));
            return k;
        }

        int next() {
            World x = w.copy();
            for (int k = 0; k < 99; k++) {
                x.slot();
                int beginning = x.slots.get(x.slots.size() - 1).beginning;
                if (beginning != 0) {
                    tell(beginning);
                    return k;
                }
            }
            return -2;
        }

        int soonest(int y) {
            if (!w.st(y)) {
                return -1;
            }
            int best = -2;
            int least = 100;
            for (int s = 0; s < w.many; s++) {
                if (w.quality[s][y] == 0 || w.q(s, 0).size() == 8) {
                    continue;
                }
                World x = w.copy();
                x.offer(s, 0, y, 1);
                x.q(s, 0).get(x.q(s, 0).size() - 1).marked = true;
                for (int k = 1; k <= 99 && x.markedAt < 0; k++) {
                    x.slot();
                }
                if (x.markedAt >= 0 && x.markedAt - w.t + 1 < least) {
                    least = x.markedAt - w.t + 1;
                    best = s;
                }
            }
            if (best >= 0) {
                tell(least);
            }
            return best;
        }

        static int faultOfDay(String text) {
            String[] forms = {"f", "abcdef", "0123", "abcdef", "123456789"};
            String[] slots = {"s", "0123456789", "0123456789"};
            int p = 0;
            while (p < text.length()) {
                String[] form = text.charAt(p) == 's' ? slots : text.charAt(p) == 'd' ? new String[] {"d"} : forms;
                for (String signs : form) {
                    if (p >= text.length() || signs.indexOf(text.charAt(p)) < 0) {
                        return p;
                    }
                    p++;
                }
            }
            return -1;
        }

        int day() {
            String acts = text;
            text = "";
            int fault = faultOfDay(acts);
            if (fault >= 0) {
                return -1 - fault;
            }
            World before = w.copy();
            int done = 0;
            int stopped = 0;
            for (int p = 0; p < acts.length() && stopped == 0;) {
                int answer;
                if (acts.charAt(p) == 'd') {
                    answer = w.drawAll();
                    p += 1;
                } else if (acts.charAt(p) == 's') {
                    int n = Integer.parseInt(acts.substring(p + 1, p + 3));
                    answer = n < 1 || n > 60 ? -1 : 0;
                    for (int i = 0; i < n && answer == 0; i++) {
                        w.slot();
                    }
                    p += 3;
                } else {
                    answer = w.offer(acts.charAt(p + 1) - 'a', acts.charAt(p + 2) - '0', acts.charAt(p + 3) - 'a', acts.charAt(p + 4) - '0');
                    p += 5;
                }
                stopped = answer < 0 ? 1 : 0;
                done += 1 - stopped;
            }
            if (done > 0) {
                saved(before);
            }
            tell(stopped, w.happened("delivered", -1) - before.happened("delivered", -1));
            return done;
        }

        int undo() {
            if (past.isEmpty()) {
                return -1;
            }
            w = past.remove(past.size() - 1);
            return past.size();
        }

        int years(int seed, int n) {
            if (n < 1 || n > 40) {
                return -1;
            }
            World x = w.copy();
            World own = new World();
            own.settings[12] = seed;
            for (int i = 0; i < n; i++) {
                if (own.draw(3) == 2) {
                    for (int k = own.draw(8); k >= 0; k--) {
                        x.slot();
                    }
                } else {
                    int[] drawn = {own.draw(6), own.draw(4), own.draw(6), own.draw(9)};
                    x.offer(drawn[0], drawn[1], drawn[2], drawn[3] + 1);
                }
            }
            tell(x.happened("lost", -1) - w.happened("lost", -1), x.waitingAll(), x.t - w.t);
            return x.happened("delivered", -1) - w.happened("delivered", -1);
        }

        boolean keep(int i) {
            if (i != 0 && i != 1) {
                return false;
            }
            kept[i] = w.copy();
            return true;
        }

        boolean again(int i) {
            if (i != 0 && i != 1 || kept[i] == null) {
                return false;
            }
            w = kept[i].copy();
            past.clear();
            return true;
        }

        int count(int what) {
            int[] all = {w.many, w.t, w.waitingAll(), w.talksOn(), past.size(), row.length, text.length(), w.happened("delivered", -1)};
            return what < 0 || what > 7 ? -1 : all[what];
        }
    }

    // ---- the runs

    static final class Run {
        static final long THREW = Long.MIN_VALUE;
        final int number;
        final Random random;
        final SharedAir air = new SharedAir();
        final Model model = new Model();
        final StringBuilder calls = new StringBuilder();
        // How eagerly frames are offered, how far numbers go astray, how many slots go by at once.
        final int eager;
        final int wild;
        final int stride;
        long answers = 0;
        boolean bad = false;

        Run(int number) {
            this.number = number;
            random = new Random(number * 7919L);
            eager = 1 + random.nextInt(6);
            wild = random.nextInt(4) == 0 ? 6 : 40;
            stride = 1 + random.nextInt(number % 3 == 0 ? 60 : 8);
        }

        long go() {
            if (number % 2 == 0) {
                // Short WAITS, small WINDOWS and many FRAMES: more of what is rare.
                for (int what = 0; what < 12; what++) {
                    int v = 1 + random.nextInt(what < 2 ? 4 : what < 7 ? 3 : 7);
                    acted("sets(" + what + "," + v + ")", air.sets(what, v), model.sets(what, v));
                }
            }
            if (random.nextInt(8) > 0) {
                newNet();
            }
            for (int i = 0; i < 160 && !bad; i++) {
                act();
                compareRow();
                if (i % 40 == 39) {
                    compareAll();
                }
            }
            return answers;
        }

        int some(int low, int high) {
            if (random.nextInt(wild) == 0) {
                return random.nextInt(3) == 0 ? random.nextInt() : random.nextBoolean() ? low - 1 : high + 1;
            }
            return low + random.nextInt(high - low + 1);
        }

        /** An answer to a call that changes something: it is told if a later one is wrong. */
        void acted(String call, long mine, long models) {
            calls.append(call).append(' ');
            same(call, mine, models);
        }

        void same(String call, long mine, long models) {
            answers++;
            if (mine != models && !bad) {
                bad = true;
                wrong++;
                System.out.println("run " + number + ": " + call + " answered " + mine + ", the model says " + models + " behind " + calls);
            }
        }

        void write(String text) {
            acted("end", air.end(0) ? 1 : 0, model.end(0) ? 1 : 0);
            for (int p = 0; p < text.length(); p += 4) {
                int v = 0;
                for (int i = 0; i < 4; i++) {
                    v = v << 8 | (p + i < text.length() ? text.charAt(p + i) : 0);
                }
                acted("sign(" + v + ")", air.sign(v), model.sign(v));
            }
            acted("end(" + text.length() + ")", air.end(text.length()) ? 1 : 0, model.end(text.length()) ? 1 : 0);
        }

        String spoil(String text) {
            if (text.isEmpty() || random.nextInt(4) > 0) {
                return text;
            }
            int p = random.nextInt(text.length());
            if (random.nextBoolean()) {
                return text.substring(0, p);
            }
            return text.substring(0, p) + "abf01239sdx\0".charAt(random.nextInt(12)) + text.substring(p + 1);
        }

        void newNet() {
            int n = 2 + random.nextInt(5);
            int dense = random.nextInt(4);
            StringBuilder told = new StringBuilder().append(n);
            for (int a = 0; a < n; a++) {
                for (int b = a + 1; b < n; b++) {
                    boolean turned = random.nextBoolean();
                    if (random.nextInt(4) <= dense) {
                        told.append((char) ('a' + (turned ? b : a))).append((char) ('a' + (turned ? a : b))).append(1 + random.nextInt(3));
                    }
                }
            }
            String text = told.toString();
            write(random.nextInt(6) == 0 ? spoil(text) : text);
            acted("net", air.net(), model.net());
        }

        void newDay() {
            StringBuilder told = new StringBuilder();
            for (int i = random.nextInt(14); i > 0; i--) {
                int kind = random.nextInt(6);
                if (kind == 0) {
                    told.append('d');
                } else if (kind < 3) {
                    int n = random.nextInt(12) == 0 ? random.nextInt(100) : 1 + random.nextInt(20);
                    told.append('s').append(n / 10).append(n % 10);
                } else {
                    told.append('f').append((char) ('a' + random.nextInt(Math.max(1, model.w.many)))).append(random.nextInt(4));
                    told.append((char) ('a' + random.nextInt(Math.max(1, model.w.many)))).append(1 + random.nextInt(9));
                }
            }
            write(spoil(told.toString()));
            acted("day", air.day(), model.day());
        }

        void act() {
            int a = some(0, 5);
            int b = some(0, 5);
            int r = some(0, 3);
            int kind = random.nextInt(40);
            if (kind < 2 * eager) {
                int from = some(0, Math.max(0, model.w.many - 1));
                int to = some(0, Math.max(0, model.w.many - 1));
                int units = some(1, 9);
                acted("offers(" + from + ", " + r + ", " + to + ", " + units + ")", air.offers(from, r, to, units), model.offers(from, r, to, units));
            } else if (kind < 24) {
                int n = some(1, stride);
                acted("slots(" + n + ")", air.slots(n), model.slots(n));
            } else if (kind < 26) {
                changeSettings();
            } else if (kind < 27) {
                acted("draws", air.draws(), model.draws());
            } else if (kind < 28) {
                newDay();
            } else if (kind < 29) {
                int n = some(0, 6);
                int f = random.nextInt();
                int step = random.nextInt();
                int sheetKind = some(0, 3);
                acted("sheet(" + r + "," + sheetKind + "," + n + "," + f + "," + step + ")", air.sheet(r, sheetKind, n, f, step), model.sheet(r, sheetKind, n, f, step));
            } else if (kind < 30) {
                acted("undo", air.undo(), model.undo());
                compareAll();
            } else if (kind < 31) {
                rarer(a);
            } else {
                question(a, b);
            }
        }

        void changeSettings() {
            int[] most = {10, 4, 7, 9, 9, 9, 9, 31, 31, 31, 31, 63, 1000};
            int what = some(0, 12);
            int v = what >= 0 && what < 13 ? some(1, most[what]) : 1;
            acted("sets(" + what + "," + v + ")", air.sets(what, v), model.sets(what, v));
        }

        void rarer(int i) {
            int kind = random.nextInt(8);
            int n = some(0, 1);
            if (kind == 0) {
                newNet();
            } else if (kind < 3) {
                acted("keep", air.keep(n) ? 1 : 0, model.keep(n) ? 1 : 0);
            } else if (kind < 5) {
                acted("again", air.again(n) ? 1 : 0, model.again(n) ? 1 : 0);
            } else {
                int seed = random.nextInt();
                int times = some(1, 40);
                acted("years", air.years(seed, times), model.years(seed, times));
            }
        }

        void question(int a, int b) {
            int n = some(1, 60);
            int what = some(0, 4);
            switch (random.nextInt(12)) {
                case 0: same("ahead(" + n + "," + what + ")", air.ahead(n, what), model.ahead(n, what)); break;
                case 1: same("quiet", air.quiet(), model.quiet()); break;
                case 2: same("next", air.next(), model.next()); break;
                case 3: same("soonest(" + a + ")", air.soonest(a), model.soonest(a)); break;
                case 4: same("sent", air.sent(), model.sent()); break;
                case 5: same("spanOf(" + a + ")", air.spanOf(a), model.spanOf(a)); break;
                case 6: same("why(" + a + ")", air.why(a), model.why(a)); break;
                case 7: same("spoilt(" + a + "," + b + ")", air.spoilt(a, b), model.spoilt(a, b)); break;
                case 8: same("held(" + a + ")", air.held(a), model.held(a)); break;
                case 9: same("even", air.even(), model.even()); break;
                case 10: same("busy", air.busy(), model.busy()); break;
                default: same("rate(" + a + "," + b + ")", air.rate(a, b), model.rate(a, b)); break;
            }
            compareRow();
            int w = some(0, 31);
            int v = some(0, 100);
            switch (random.nextInt(6)) {
                case 0: same("odds", air.odds(what, w), model.oddsAnswer(what, w)); break;
                case 1: same("window", air.window(what, v), model.window(what, v)); break;
                case 2: same("hidden", air.hidden(), model.hidden()); break;
                case 3: same("end", air.end(what) ? 1 : 0, model.end(what) ? 1 : 0); break;
                case 4: same("sign", air.sign(v), model.sign(v)); break;
                default: break;
            }
        }

        void compareRow() {
            same("count(5)", air.count(5), model.row.length);
            for (int i = 0; i < model.row.length; i++) {
                long got;
                try {
                    got = air.row(i);
                } catch (NoSuchElementException e) {
                    got = THREW;
                }
                same("row(" + i + ")", got, model.row[i]);
            }
        }

        interface Call {
            long answer();
        }

        static long answerOf(Call call) {
            try {
                return call.answer();
            } catch (NoSuchElementException e) {
                return THREW;
            }
        }

        void compareAll() {
            for (int what = -1; what <= 13; what++) {
                int w = what;
                same("count(" + w + ")", air.count(w), model.count(w));
                same("setting(" + w + ")", answerOf(() -> air.setting(w)),
                    w < 0 || w > 12 ? THREW : model.w.settings[w]);
                for (int s = -1; s <= 6; s++) {
                    int z = s;
                    same("station(" + z + "," + w + ")", answerOf(() -> air.station(z, w)), answerOf(() -> model.station(z, w)));
                    same("tally(" + z + "," + w + ")", answerOf(() -> air.tally(z, w)), answerOf(() -> model.tally(z, w)));
                    same("exchange(" + z + "," + w + ")", air.exchange(z, w), model.exchange(z, w));
                    same("spoilt(" + z + "," + w + ")", air.spoilt(z, w), model.spoilt(z, w));
                    same("rate(" + z + "," + w + ")", air.rate(z, w), model.rate(z, w));
                    compareRow();
                    if (w <= 4) {
                        compareQueue(z, w);
                    }
                }
            }
            for (int s = -1; s <= 6; s++) {
                same("why(" + s + ")", air.why(s), model.why(s));
                compareRow();
                same("held(" + s + ")", air.held(s), model.held(s));
                compareRow();
                same("spanOf(" + s + ")", air.spanOf(s), model.spanOf(s));
                compareRow();
            }
        }

        void compareQueue(int s, int r) {
            for (int what = -1; what <= 4; what++) {
                int w = what;
                same("rank(" + s + "," + r + "," + w + ")", answerOf(() -> air.rank(s, r, w)), answerOf(() -> model.rank(s, r, w)));
                for (int i = -1; i <= 8; i++) {
                    int k = i;
                    same("frame(" + s + "," + r + "," + k + "," + w + ")", answerOf(() -> air.frame(s, r, k, w)), answerOf(() -> model.frame(s, r, k, w)));
                }
            }
        }
    }
}
