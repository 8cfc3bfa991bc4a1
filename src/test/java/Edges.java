import java.io.IOException;
import java.nio.file.Files;
import java.nio.file.Path;
import java.util.LinkedHashMap;
import java.util.Map;
import java.util.NoSuchElementException;

/**
 * Runs tests of single sentences of ../shared/DOC.md. Each test says where its sentence stands and quotes it; a quote
 * that does not stand there is a fault too, so that the tests can't fall behind the document.
 */
final class Edges {
    static final long THREW = Long.MIN_VALUE;

    private final Map<String, String> parts = new LinkedHashMap<>();
    private final Map<String, Integer> testsOf = new LinkedHashMap<>();
    private final Map<String, Integer> testsOfSentence = new LinkedHashMap<>();
    private String now = "";
    private int tests = 0;
    private int wrongTests = 0;
    private int faultsNow = 0;

    interface Test {
        void run();
    }

    interface Call {
        long answer();
    }

    interface Act {
        void on(SharedAir x);
    }

    interface Ask {
        long of(SharedAir x);
    }

    interface Scene {
        SharedAir made();
    }

    Edges() {
        readParts();
    }

    // ---- the document

    private void readParts() {
        String doc;
        try {
            doc = Files.readString(Path.of("../shared/DOC.md"));
        } catch (IOException e) {
            throw new IllegalStateException("../shared/DOC.md is not there");
        }
        int terms2 = doc.indexOf("2. ROW:");
        parts.put("What it is", plain(doc.substring(0, doc.indexOf("## The public face"))));
        parts.put("Terms 1", plain(doc.substring(doc.indexOf("## Terms"), terms2)));
        parts.put("Terms 2", plain(doc.substring(terms2, doc.indexOf("Ahead of the calls", terms2))));
        for (int p = 1; p <= 37; p++) {
            int from = doc.indexOf("## Promise " + p + ":");
            parts.put("Promise " + p, plain(doc.substring(from, doc.indexOf("\n## ", from))));
        }
    }

    private static String plain(String text) {
        return text.replace("```text", " ").replace("```", " ").replaceAll("\\s+", " ");
    }

    // ---- tests

    /** One test of a sentence of the document, that stands in that part of it. */
    void edge(String part, String sentence, String edge, Test test) {
        now = part + ", \"" + sentence + "\" (" + edge + ")";
        faultsNow = 0;
        tests++;
        testsOf.merge(part, 1, Integer::sum);
        testsOfSentence.merge(part + ", \"" + sentence + "\"", 1, Integer::sum);
        if (!parts.getOrDefault(part, "").contains(plain(sentence))) {
            fault("the document does not say that there");
        }
        try {
            test.run();
        } catch (RuntimeException e) {
            fault("threw " + e);
        }
        wrongTests += faultsNow > 0 ? 1 : 0;
    }

    void fault(String what) {
        faultsNow++;
        System.out.println(now + ": " + what);
    }

    /** Tells what ran, and ends the program with 1 if a test failed. Each part between must have a test. */
    void finish(String name, String... wanted) {
        for (String part : wanted) {
            if (!testsOf.containsKey(part)) {
                wrongTests++;
                System.out.println(part + " has no test");
            }
        }
        testsOfSentence.forEach((sentence, many) -> System.out.println(many + (many == 1 ? " test of " : " tests of ") + sentence));
        System.out.println(name + ": " + tests + " tests of " + testsOfSentence.size() + " sentences, " + wrongTests + " failed");
        if (wrongTests != 0) {
            System.exit(1);
        }
    }

    void due(String call, long got, long want) {
        if (got != want) {
            String said = got == THREW ? "threw NoSuchElementException" : "answered " + got;
            fault(call + " " + said + ", due is " + (want == THREW ? "NoSuchElementException" : want));
        }
    }

    void due(String call, boolean got, boolean want) {
        if (got != want) {
            fault(call + " answered " + got + ", due is " + want);
        }
    }

    void dueThrow(String call, Call it) {
        due(call, of(it), THREW);
    }

    void dueRow(SharedAir x, long... want) {
        StringBuilder told = new StringBuilder();
        for (long number : want) {
            told.append(number).append(' ');
        }
        String got = row(x);
        if (!got.equals(told.toString())) {
            fault("the ROW is " + got + ", due is " + told);
        }
        dueThrow("row(" + want.length + ")", () -> x.row(want.length));
    }

    /** That call answers so and leaves all as it is, the ROW and what can be undone too. */
    void changesNothing(Scene scene, String call, Ask ask, long want) {
        SharedAir x = scene.made();
        due(call, of(() -> ask.of(x)), want);
        String got = row(x) + all(x);
        SharedAir y = scene.made();
        String due = row(y) + all(y);
        dueSame(call, got, due);
    }

    /** That question may tell a ROW, but leaves all else as it is. */
    void changesNoState(Scene scene, String call, Act ask) {
        SharedAir x = scene.made();
        ask.on(x);
        String got = all(x);
        dueSame(call, got, all(scene.made()));
    }

    private void dueSame(String call, String got, String due) {
        int same = 0;
        while (same < got.length() && same < due.length() && got.charAt(same) == due.charAt(same)) {
            same++;
        }
        if (same < got.length() || same < due.length()) {
            int from = Math.max(0, same - 20);
            fault(call + " changed something: .." + got.substring(from, Math.min(got.length(), same + 20)) + ".., due is .."
                + due.substring(from, Math.min(due.length(), same + 20)) + "..");
        }
    }

    static long of(Call call) {
        try {
            return call.answer();
        } catch (NoSuchElementException e) {
            return THREW;
        }
    }

    static String row(SharedAir x) {
        StringBuilder told = new StringBuilder();
        int many = x.count(5);
        for (int i = 0; i < many; i++) {
            int at = i;
            long number = of(() -> x.row(at));
            told.append(number == THREW ? "?" : Long.toString(number)).append(' ');
        }
        return told.toString();
    }

    // ---- objects

    /** THE TEXT is that text (80 signs at most). */
    static void write(SharedAir x, String text) {
        x.end(0);
        for (int p = 0; p < text.length(); p += 4) {
            int v = 0;
            for (int i = 0; i < 4; i++) {
                v = v << 8 | (p + i < text.length() ? text.charAt(p + i) : 0);
            }
            x.sign(v);
        }
        x.end(text.length());
    }

    static int net(SharedAir x, String text) {
        write(x, text);
        return x.net();
    }

    static int day(SharedAir x, String text) {
        write(x, text);
        return x.day();
    }

    static SharedAir made(String text) {
        SharedAir x = new SharedAir();
        net(x, text);
        return x;
    }

    /** Offers so many FRAMES alike. */
    static void offerMany(SharedAir x, int many, int from, int rank, int to, int units) {
        for (int i = 0; i < many; i++) {
            x.offers(from, rank, to, units);
        }
    }

    /** A SEED by which DRAWN COUNTS of these WINDOWS, one behind another, are these (-1: any). */
    static int seedFor(int[] windows, int... counts) {
        for (int seed = 0; seed < 1000000; seed++) {
            int drawn = seed;
            boolean good = true;
            for (int i = 0; i < windows.length && good; i++) {
                drawn = drawn * 1103515245 + 12345;
                good = counts[i] < 0 || (drawn >>> 16) % (windows[i] + 1) == counts[i];
            }
            if (good) {
                return seed;
            }
        }
        throw new IllegalStateException("no SEED for that");
    }

    /** COUNTS of all RANKS with FRAMES are DRAWN and become these (-1: any). */
    static void drawCounts(SharedAir x, int... counts) {
        int[] windows = new int[counts.length];
        int many = 0;
        for (int s = 0; s < x.count(0); s++) {
            for (int r = 0; r < 4; r++) {
                if (x.rank(s, r, 0) > 0 && many < windows.length) {
                    windows[many] = x.rank(s, r, 2);
                    many++;
                }
            }
        }
        x.sets(12, seedFor(windows, counts));
        if (x.draws() != counts.length) {
            throw new IllegalStateException("other COUNTS are DRAWN");
        }
    }

    /** SLOTS go by till an EXCHANGE of that STATION goes on (60 at most). */
    static void goTillBegun(SharedAir x, int s) {
        for (int i = 0; i < 60 && x.exchange(s, 0) == SharedAir.NONE; i++) {
            x.slots(1);
        }
    }

    /** SLOTS go by till nothing waits (60 at most). */
    static void goTillQuiet(SharedAir x) {
        for (int i = 0; i < 60 && x.count(2) + x.count(3) > 0; i++) {
            x.slots(1);
        }
    }

    /** All that can be asked of what there is, was had and would be; then what undo() brings back. */
    static String all(SharedAir x) {
        StringBuilder told = new StringBuilder();
        for (int what = 0; what <= 7; what++) {
            told.append(what == 5 ? 0 : x.count(what)).append(',');
        }
        for (int what = 0; what <= 12; what++) {
            told.append(x.setting(what)).append(',');
        }
        tell(x, x.sent(), told);
        tell(x, x.hidden(), told);
        tell(x, x.even(), told);
        tell(x, x.busy(), told);
        tell(x, x.quiet(), told);
        for (int s = 0; s < x.count(0); s++) {
            tellStation(x, s, told.append('\n'));
        }
        int left = x.undo();
        for (int i = 0; i < 20 && left >= 0; i++) {
            told.append("\nundone ").append(left);
            for (int what = 0; what <= 4; what++) {
                told.append(',').append(x.count(what));
            }
            told.append(',').append(x.setting(0)).append(',').append(x.setting(12));
            left = x.undo();
        }
        return told.append("\nkept ").append(x.again(1)).append(x.count(1)).append(x.again(0)).append(x.count(1)).toString();
    }

    /** The ROW belongs to an answer that tells of no refusal. */
    private static void tell(SharedAir x, int answer, StringBuilder told) {
        told.append(answer);
        if (answer >= 0) {
            told.append('[').append(row(x)).append(']');
        }
    }

    private static void tellStation(SharedAir x, int s, StringBuilder told) {
        for (int what = 0; what <= 6; what++) {
            told.append(x.station(s, what)).append(',').append(x.exchange(s, what)).append(',');
        }
        for (int r = 0; r < 4; r++) {
            for (int what = 0; what <= 3; what++) {
                told.append(x.rank(s, r, what)).append(',');
            }
            for (int i = 0; i < x.rank(s, r, 0); i++) {
                for (int what = 0; what <= 3; what++) {
                    told.append(x.frame(s, r, i, what)).append(' ');
                }
            }
        }
        for (int what = 0; what <= 8; what++) {
            told.append(x.tally(s, what)).append(',');
        }
        tell(x, x.spanOf(s), told);
        tell(x, x.why(s), told);
        tell(x, x.held(s), told);
        for (int z = 0; z < x.count(0); z++) {
            tell(x, x.rate(s, z), told);
            tell(x, x.spoilt(s, z), told);
        }
    }

    // ---- scenes

    /** a has that RATE to b, its LUCK is 0 and nothing waits. */
    static SharedAir atRate(int rate, String net) {
        SharedAir x = new SharedAir();
        x.sets(7, 1);
        net(x, net);
        for (int i = 0; i < 3 * (rate - 1); i++) {
            x.offers(0, 0, 1, 1);
            x.slots(9);
        }
        return x;
    }

    /** a ASKS b in SLOT 2 for so many PLACES (9 at most), b GRANTS in SLOT 3; c HEARS who the net tells. */
    static SharedAir asking(String net, int units) {
        SharedAir x = made(net);
        x.offers(0, 0, 1, units);
        return x;
    }

    /**
     * a and d ASK b at once in SLOT 2: both FAIL in SLOT 3. c HEARD a's ASK: its SPAN is 5 + units and nobody SENDS, till
     * a and d begin again in SLOT 11 (each DRAWS 6). e HEARS c alone. T is 3.
     */
    static SharedAir spanOfNobody(int units) {
        SharedAir x = made("5ab2ac2bd2ce2");
        x.offers(0, 0, 1, units);
        x.offers(3, 0, 1, 5);
        x.slots(3);
        return x;
    }

    /** Much was had of it. */
    static SharedAir used() {
        SharedAir x = made("3ab2bc2ac1");
        x.sets(0, 7);
        x.sets(7, 5);
        x.offers(0, 0, 1, 1);
        x.offers(0, 1, 1, 3);
        x.offers(2, 0, 1, 1);
        x.slots(60);
        x.offers(1, 3, 0, 9);
        x.slots(5);
        return x;
    }

    /** ASKS, spoilt PLACES, FRAMES that come in part, SPANS: so many SLOTS of it went by, one by one. */
    static SharedAir manyThings(int slots) {
        SharedAir x = new SharedAir();
        x.sets(3, 3);
        x.sets(4, 4);
        net(x, "4ab2bc2cd2");
        x.offers(0, 0, 1, 1);
        x.offers(0, 0, 1, 2);
        x.offers(2, 1, 3, 1);
        x.offers(3, 2, 2, 6);
        x.offers(0, 3, 1, 7);
        goOn(x, slots);
        return x;
    }

    static void goOn(SharedAir x, int slots) {
        for (int i = 0; i < slots; i++) {
            x.slots(1);
        }
    }

    /** Both tell the same but for what can be undone and what is kept. */
    static boolean sameButForUndo(SharedAir x, SharedAir y) {
        return withoutUndo(all(x)).equals(withoutUndo(all(y)));
    }

    private static String withoutUndo(String all) {
        String[] counts = all.substring(0, all.indexOf("\nundone")).split(",", 6);
        counts[4] = "";
        return String.join(",", counts);
    }
}
