import java.util.NoSuchElementException;

/** The promises of the document one by one: ordinary calls, the edges that it names, and wrong calls. */
public final class PromiseTest {
    private static final long THREW = Long.MIN_VALUE;
    private static int wrong = 0;
    private static int asked = 0;

    private static void due(String call, long got, long want) {
        asked++;
        if (got != want) {
            wrong++;
            String said = got == THREW ? "threw NoSuchElementException" : "answered " + got;
            System.out.println(call + " " + said + ", due is " + (want == THREW ? "NoSuchElementException" : want));
        }
    }

    private static void due(String call, boolean got, boolean want) {
        due(call, got ? 1 : 0, want ? 1 : 0);
    }

    private interface Call {
        long answer();
    }

    private static long of(Call call) {
        try {
            return call.answer();
        } catch (NoSuchElementException e) {
            return THREW;
        }
    }

    private static void dueRow(String where, SharedAir x, long... want) {
        due(where + ": count(5)", x.count(5), want.length);
        for (int i = 0; i < want.length; i++) {
            int at = i;
            due(where + ": row(" + i + ")", of(() -> x.row(at)), want[i]);
        }
        due(where + ": row(" + want.length + ")", of(() -> x.row(want.length)), THREW);
    }

    private static void dueNone(String call, Call it) {
        due(call, of(it), THREW);
    }

    /** THE TEXT is that text. */
    private static void write(SharedAir x, String text) {
        x.end(0);
        for (int p = 0; p < text.length(); p += 4) {
            int v = 0;
            for (int i = 0; i < 4; i++) {
                v = v << 8 | (p + i < text.length() ? text.charAt(p + i) : 0);
            }
            x.sign(v);
        }
        x.end(text.length());
    }

    private static int net(SharedAir x, String text) {
        write(x, text);
        return x.net();
    }

    private static int day(SharedAir x, String text) {
        write(x, text);
        return x.day();
    }

    private static SharedAir made(String text) {
        SharedAir x = new SharedAir();
        net(x, text);
        return x;
    }

    public static void main(String[] args) {
        promise1();
        promise2();
        promise3();
        promise4();
        promise5();
        promise6();
        promise7();
        promise8();
        promise9();
        promise10();
        promise11();
        promise12();
        promise13();
        promise14();
        promise15();
        promise16();
        promise17();
        promise18();
        promise19();
        promise20();
        promise21();
        promise22();
        promise23();
        promise24();
        promise25();
        promise26();
        promise27();
        promise28();
        promise29();
        promise30();
        promise31();
        promise32();
        promise33();
        promise34and35();
        promise36();
        promise37();
        shortFrame();
        together();
        ratesGoUpAndDown();
        inside();
        lost();
        windowsGrow();
        countsGoDown();
        spansKeep();
        stepsGoByNumbers();
        System.out.println(wrong == 0 ? asked + " answers are as due" : wrong + " of " + asked + " answers are not as due");
        if (wrong != 0) {
            System.exit(1);
        }
    }

    private static void promise1() {
        SharedAir x = new SharedAir();
        for (int what = 0; what <= 7; what++) {
            due("1: count(" + what + ")", x.count(what), 0);
        }
        dueRow("1", x);
        dueNone("1: station(0, 0)", () -> x.station(0, 0));
        due("1: offers", x.offers(0, 0, 1, 1), -1);
        due("1: undo", x.undo(), -1);
        due("1: again(0)", x.again(0), false);
        due("1: NONE", SharedAir.NONE, -1);
        due("1: slots(60)", x.slots(60), 0);
        due("1: T", x.count(1), 60);
        due("1: sent", x.sent(), 0);
        due("1: draws", x.draws(), 0);
        due("1: sheet", x.sheet(0, 2, 6, 1, 1), 0);
        due("1: hidden", x.hidden(), 0);
        due("1: even", x.even(), -2);
        due("1: quiet", x.quiet(), 0);
        due("1: next", x.next(), -2);
        due("1: soonest", x.soonest(0), -1);
    }

    private static void promise2() {
        SharedAir x = new SharedAir();
        for (int n = 1; n <= 20; n++) {
            due("2: sign no. " + n, x.sign(0x32616231), 4 * n);
        }
        due("2: the 21st", x.sign(0), -1);
        due("2: how many stay", x.count(6), 80);
        x.end(77);
        due("2: 81 would be", x.sign(0), -1);
        due("2: 77 stay", x.count(6), 77);
        x.end(76);
        due("2: 80 again", x.sign(-1), 80);
        x.end(4);
        due("2: highest byte first", x.net(), 1);
        due("2: signs without sign", x.sign(0xffffffff), 4);
        due("2: 255 is no digit", x.net(), -1);
    }

    private static void promise3() {
        SharedAir x = new SharedAir();
        due("3: end(0) of none", x.end(0), true);
        due("3: end(1) of none", x.end(1), false);
        x.sign(0x32616231);
        due("3: end(-1)", x.end(-1), false);
        due("3: end(5)", x.end(5), false);
        due("3: all stay", x.count(6), 4);
        due("3: end(4)", x.end(4), true);
        due("3: end(2)", x.end(2), true);
        due("3: two stay", x.count(6), 2);
        due("3: end(3)", x.end(3), false);
        due("3: its first signs", x.net(), -3);
    }

    private static void promise4() {
        SharedAir x = new SharedAir();
        due("4: one alone", net(x, "1"), 0);
        due("4: STATIONS", x.count(0), 1);
        due("4: six", net(x, "6ab1fe2cd3"), 3);
        due("4: STATIONS", x.count(0), 6);
        due("4: a HEARS b", x.station(0, 5), 2);
        due("4: f HEARS e", x.station(5, 5), 16);
        due("4: e HEARS f", x.station(4, 5), 32);
        due("4: TEXT is read", x.count(6), 0);
        x.rate(2, 3);
        dueRow("4: QUALITY", x, 0, 3);
        x.offers(0, 0, 1, 4);
        x.slots(5);
        String[] faulty = {"", "0", "7", "a", "2x", "2ca1", "2aa1", "2ac1", "2a", "2a1", "2ab", "2ab0", "2ab4", "2aba",
            "2ab1a", "2ab1ab2", "2ab1ba2", "3ab1bc2cb1", "3ab1bc", "2ab1 ", "22ab1", "1aa1", "1a"};
        int[] at = {0, 0, 0, 0, 1, 1, 2, 2, 2, 2, 3, 3, 3, 3, 5, 5, 5, 8, 6, 4, 1, 2, 2};
        for (int i = 0; i < faulty.length; i++) {
            due("4: net() of " + faulty[i], net(x, faulty[i]), -1 - at[i]);
            due("4: TEXT is empty", x.count(6), 0);
        }
        due("4: STATIONS stay", x.count(0), 6);
        due("4: FRAMES stay", x.count(2) + x.count(7), 1);
        due("4: T stays", x.count(1), 5);
        dueRow("4: ROW stays", x, 0, 0, 0);

        SharedAir y = made("3ab2bc2");
        y.sets(7, 9);
        y.sets(12, 77);
        y.offers(0, 0, 1, 5);
        y.offers(2, 1, 1, 5);
        y.slots(20);
        int seed = y.setting(12);
        due("4: anew", net(y, "2ab3"), 1);
        due("4: SETTINGS stay", y.setting(7), 9);
        due("4: SEED stays", y.setting(12), seed);
        due("4: WINDOW is the LEAST", y.rank(0, 0, 2), 9);
        due("4: COUNT", y.rank(0, 0, 1), 0);
        due("4: QUEUES", y.count(2), 0);
        due("4: T", y.count(1), 0);
        due("4: sent", y.sent(), -2);
        due("4: tallies", y.tally(0, 3) + y.tally(0, 5) + y.tally(1, 4) + y.busy() + y.held(0), 0);
        due("4: why", y.why(0), -2);
        due("4: STILL", y.station(0, 0), 0);
        due("4: SPAN", y.station(1, 1), 0);
        due("4: EXCHANGES", y.count(3), 0);
        dueNone("4: c is gone", () -> y.station(2, 0));
    }

    private static void promise5() {
        SharedAir x = made("2ab1");
        int[] first = {5, 2, 4, 2, 2, 3, 6, 3, 7, 15, 15, 31};
        int[] most = {10, 4, 7, 9, 9, 9, 9, 31, 31, 31, 31, 63};
        for (int what = 0; what < 12; what++) {
            due("5: sets(" + what + ", 0)", x.sets(what, 0), -1);
            due("5: too much of " + what, x.sets(what, most[what] + 1), -1);
            due("5: it is so " + what, x.sets(what, first[what]), -2);
            due("5: 1 of " + what, x.sets(what, 1), 100 + first[what]);
            due("5: all of " + what, x.sets(what, most[what]), 101);
            due("5: it is so " + what, x.sets(what, most[what]), -2);
        }
        due("5: SEED", x.sets(12, -5), 100);
        due("5: SEED as it is", x.sets(12, -5), 100);
        due("5: SEED", x.setting(12), -5);
        due("5: sets(13, 1)", x.sets(13, 1), -1);
        due("5: sets(-1, 1)", x.sets(-1, 1), -1);
        due("5: sets(0, MIN)", x.sets(0, Integer.MIN_VALUE), -1);
        due("5: WINDOWS stay", x.rank(0, 0, 2), 3);
    }

    private static void promise6() {
        SharedAir x = new SharedAir();
        int[] first = {5, 2, 4, 2, 2, 3, 6, 3, 7, 15, 15, 31, 1};
        for (int what = 0; what < 13; what++) {
            due("6: setting(" + what + ")", x.setting(what), first[what]);
        }
        dueNone("6: setting(13)", () -> x.setting(13));
        dueNone("6: setting(-1)", () -> x.setting(-1));
        dueNone("6: setting(MAX)", () -> x.setting(Integer.MAX_VALUE));
        x.sets(4, 9);
        due("6: setting(4)", x.setting(4), 9);
        net(x, "2ab1");
        x.offers(0, 0, 1, 1);
        x.draws();
        due("6: SEED goes on", x.setting(12), 1103527590);
    }

    private static void promise7() {
        SharedAir x = made("3ab1ac1bc1");
        x.offers(0, 2, 1, 3);
        x.offers(0, 1, 1, 3);
        x.slots(1);
        int undone = x.count(4);
        due("7: ints", x.sheet(2, 2, 3, 9, 1), 3);
        due("7: nothing to undo", x.count(4), undone);
        due("7: emptied first", x.rank(0, 2, 0), 1);
        due("7: other RANKS stay", x.rank(0, 1, 0), 1);
        due("7: UNITS of 9", x.frame(0, 2, 0, 1), 1);
        due("7: UNITS of 10", x.frame(1, 2, 0, 1), 2);
        due("7: to the next", x.frame(0, 2, 0, 0), 1);
        due("7: to 0 behind the last", x.frame(2, 2, 0, 0), 0);
        due("7: T as it was offered", x.frame(2, 2, 0, 3), 1);
        due("7: TRIED", x.frame(2, 2, 0, 2), 0);
        due("7: bytes", x.sheet(2, 0, 3, 200, 56), 1);
        due("7: byte 56 of 312", x.frame(2, 2, 0, 1), 56 % 9 + 1);
        due("7: others have none", x.rank(0, 2, 0) + x.rank(1, 2, 0), 0);
        due("7: shorts", x.sheet(2, 1, 3, 32767, 1), 1);
        due("7: short 32767", x.frame(0, 2, 0, 1), 32767 % 9 + 1);
        due("7: ints go round", x.sheet(2, 2, 3, Integer.MAX_VALUE, 1), 1);
        due("7: int MAX", x.frame(0, 2, 0, 1), Integer.MAX_VALUE % 9 + 1);
        due("7: bytes below 0 of ints", x.sheet(0, 2, 3, 200, 56), 3);
        due("7: few entries", x.sheet(0, 2, 2, 5, 0), 2);
        due("7: no entry", x.sheet(0, 2, 0, 5, 0), 0);
        due("7: it is emptied too", x.rank(0, 0, 0), 0);
        due("7: more entries than STATIONS", x.sheet(0, 2, 6, 5, 0), 3);
        due("7: 7 entries", x.sheet(0, 2, 7, 5, 0), -1);
        due("7: rank 4", x.sheet(4, 2, 1, 5, 0), -1);
        due("7: rank -1", x.sheet(-1, 2, 1, 5, 0), -1);
        due("7: kind 4", x.sheet(0, 4, 1, 5, 0), -1);
        due("7: kind -1", x.sheet(0, -1, 1, 5, 0), -1);
        due("7: missing, but 7", x.sheet(0, 3, 7, 5, 0), -1);
        due("7: n below 0", x.sheet(0, 1, -1, 5, 0), -2);
        due("7: nothing changes", x.rank(0, 0, 0), 1);
        due("7: NONE ahead of -2", x.sheet(4, 0, -1, 5, 0), -1);
        due("7: missing", x.sheet(0, 3, -5, 5, 0), -3);
        due("7: all are emptied", x.rank(0, 0, 0) + x.rank(1, 0, 0) + x.rank(2, 0, 0), 0);
        due("7: of that RANK", x.rank(0, 2, 0), 1);
        x.slots(2);
        due("7: an EXCHANGE goes on", x.count(3), 1);
        due("7: -4", x.sheet(0, 2, 3, 5, 0), -4);
        due("7: -4 ahead of -2", x.sheet(0, 2, -3, 5, 0), -4);
        due("7: -4 ahead of -3", x.sheet(0, 3, 3, 5, 0), -4);
        due("7: NONE ahead of -4", x.sheet(0, 2, 7, 5, 0), -1);

        SharedAir y = made("3ab1");
        due("7: they do not all HEAR each other", y.sheet(3, 2, 3, 1, 0), 1);
        SharedAir z = made("1");
        due("7: alone", z.sheet(3, 2, 1, 1, 0), 0);
    }

    private static void promise8() {
        SharedAir x = made("3ab1bc1");
        x.slots(3);
        for (int n = 1; n <= 8; n++) {
            due("8: FRAME " + n, x.offers(1, 3, n % 2 == 0 ? 0 : 2, n), n);
        }
        due("8: it has 8", x.offers(1, 3, 0, 1), -2);
        due("8: another RANK", x.offers(1, 2, 0, 9), 1);
        due("8: they do not HEAR", x.offers(0, 0, 2, 1), -3);
        for (int n = 1; n <= 8; n++) {
            due("8: to whom", x.frame(1, 3, n - 1, 0), n % 2 == 0 ? 0 : 2);
            due("8: UNITS", x.frame(1, 3, n - 1, 1), n);
            due("8: T", x.frame(1, 3, n - 1, 3), 3);
        }
        due("8: from 3", x.offers(3, 0, 1, 1), -1);
        due("8: from -1", x.offers(-1, 0, 1, 1), -1);
        due("8: to 3", x.offers(1, 0, 3, 1), -1);
        due("8: to -1", x.offers(1, 0, -1, 1), -1);
        due("8: both are one", x.offers(1, 0, 1, 1), -1);
        due("8: RANK 4", x.offers(0, 4, 1, 1), -1);
        due("8: RANK -1", x.offers(0, -1, 1, 1), -1);
        due("8: 0 UNITS", x.offers(0, 0, 1, 0), -1);
        due("8: 10 UNITS", x.offers(0, 0, 1, 10), -1);
        due("8: NONE ahead of -3", x.offers(0, 0, 2, 10), -1);
        due("8: how many wait", x.count(2), 9);
    }

    /** a asks b for five PLACES while c hears all of it: SLOT by SLOT. */
    private static SharedAir askingRun(int slots) {
        SharedAir x = made("3ab2bc2ac2");
        x.offers(0, 0, 1, 5);
        for (int i = 0; i < slots; i++) {
            x.slots(1);
        }
        return x;
    }

    private static void promise9() {
        SharedAir x = made("3ab1bc1");
        due("9: slots(0)", x.slots(0), -1);
        due("9: slots(61)", x.slots(61), -1);
        due("9: slots(-1)", x.slots(-1), -1);
        due("9: T stays", x.count(1), 0);
        dueRow("9: ROW stays", x);
        x.sets(2, 1);
        x.offers(0, 0, 1, 1);
        x.offers(0, 1, 1, 1);
        x.offers(2, 0, 1, 1);
        due("9: DELIVERED", x.slots(4), 0);
        dueRow("9: a and c fail, a's RANK 1 meets inside, all are LOST", x, 3, 2, 1);
        due("9: slots(60)", x.slots(60), 0);
        due("9: T", x.count(1), 64);
        x.offers(2, 0, 1, 1);
        due("9: DELIVERED", x.slots(60), 1);
        dueRow("9: of these SLOTS alone", x, 0, 0, 0);
    }

    private static void promise10() {
        SharedAir x = made("2ab1");
        due("10: none", x.draws(), 0);
        due("10: SEED", x.setting(12), 1);
        x.offers(1, 0, 0, 1);
        x.offers(0, 3, 1, 1);
        x.offers(0, 1, 1, 1);
        x.offers(0, 1, 1, 1);
        due("10: three RANKS", x.draws(), 3);
        due("10: a's RANK 1 is the first", x.rank(0, 1, 1), 16838 % 8);
        due("10: then a's RANK 3", x.rank(0, 3, 1), 38526 % 16);
        due("10: then b", x.rank(1, 0, 1), 10113 % 4);
        due("10: empty ones stay", x.rank(0, 0, 1), 0);
        due("10: WINDOWS stay", x.rank(0, 3, 2), 15);
        dueRow("10: ROW stays", x);
    }

    private static void promise11() {
        SharedAir x = askingRun(0);
        due("11: STILL", x.station(1, 0), 0);
        due("11: owes nobody", x.station(1, 3), -1);
        due("11: owes nothing", x.station(1, 4), 0);
        due("11: HEARS", x.station(1, 5), 5);
        due("11: waits", x.station(0, 6), 1);
        x.offers(0, 3, 2, 1);
        due("11: waits in all", x.station(0, 6), 2);
        x.slots(2);
        due("11: STILL", x.station(0, 0), 2);
        due("11: FREE", x.station(0, 2), 1);
        x.slots(1);
        due("11: STILL of who SENT", x.station(0, 0), 0);
        due("11: STILL of who HEARD it", x.station(2, 0), 0);
        due("11: SENDER", x.station(0, 2), 0);
        due("11: to whom", x.station(1, 3), 0);
        due("11: GRANT", x.station(1, 4), 1);
        due("11: owing", x.station(1, 2), 0);
        due("11: SPAN", x.station(2, 1), 10);
        due("11: c is FREE", x.station(2, 2), 1);
        due("11: b has none", x.station(1, 1), 0);
        x.slots(1);
        due("11: paid", x.station(1, 4), 0);
        due("11: to nobody", x.station(1, 3), -1);
        due("11: FREE again", x.station(1, 2), 1);
        x.slots(5);
        due("11: ANSWER", x.station(1, 4), 2);
        due("11: to whom", x.station(1, 3), 0);
        x.slots(1);
        due("11: FREE", x.station(0, 2) + x.station(1, 2), 2);
        due("11: left", x.station(0, 6), 1);
        for (int what = -1; what <= 7; what += 8) {
            int w = what;
            dueNone("11: station(0, " + w + ")", () -> x.station(0, w));
        }
        dueNone("11: station(3, 0)", () -> x.station(3, 0));
        dueNone("11: station(-1, 0)", () -> x.station(-1, 0));
    }

    private static void promise12() {
        SharedAir x = made("2ab1");
        due("12: LEAST WINDOWS", x.rank(0, 0, 2), 3);
        due("12: LEAST WINDOWS", x.rank(0, 1, 2), 7);
        due("12: LEAST WINDOWS", x.rank(0, 2, 2), 15);
        due("12: LEAST WINDOWS", x.rank(1, 3, 2), 15);
        x.offers(0, 2, 1, 1);
        due("12: FRAMES", x.rank(0, 2, 0), 1);
        due("12: COUNT", x.rank(0, 2, 1), 0);
        x.slots(2);
        due("12: not READY by STILL", x.rank(0, 2, 3), 0);
        x.slots(1);
        due("12: READY", x.rank(0, 2, 3), 1);
        due("12: not READY by QUEUE", x.rank(0, 1, 3), 0);
        x.draws();
        due("12: COUNT", x.rank(0, 2, 1), 16838 % 16);
        due("12: not READY by COUNT", x.rank(0, 2, 3), 0);
        dueNone("12: rank(0, 0, 4)", () -> x.rank(0, 0, 4));
        dueNone("12: rank(0, 0, -1)", () -> x.rank(0, 0, -1));
        dueNone("12: rank(0, 4, 0)", () -> x.rank(0, 4, 0));
        dueNone("12: rank(0, -1, 0)", () -> x.rank(0, -1, 0));
        dueNone("12: rank(2, 0, 0)", () -> x.rank(2, 0, 0));
        dueNone("12: rank(-1, 0, 0)", () -> x.rank(-1, 0, 0));
        // READY tells nothing of FREE and SPAN: c's SPAN RUNS when its STILL is told to be 0, so a SENDER shows it.
        SharedAir y = made("2ab1");
        y.sets(5, 1);
        y.offers(0, 0, 1, 5);
        y.slots(3);
        y.offers(0, 2, 1, 1);
        due("12: a SENDER's STILL is 0", y.rank(0, 2, 3), 0);
    }

    private static void promise13() {
        SharedAir x = made("3ab1bc1");
        x.slots(4);
        x.offers(1, 0, 0, 7);
        x.slots(1);
        x.offers(1, 0, 2, 8);
        due("13: to", x.frame(1, 0, 0, 0), 0);
        due("13: UNITS", x.frame(1, 0, 0, 1), 7);
        due("13: TRIED", x.frame(1, 0, 0, 2), 0);
        due("13: T", x.frame(1, 0, 0, 3), 4);
        due("13: to", x.frame(1, 0, 1, 0), 2);
        due("13: UNITS", x.frame(1, 0, 1, 1), 8);
        due("13: T", x.frame(1, 0, 1, 3), 5);
        dueNone("13: frame(1, 0, 2, 0)", () -> x.frame(1, 0, 2, 0));
        dueNone("13: frame(1, 0, -1, 0)", () -> x.frame(1, 0, -1, 0));
        dueNone("13: frame(1, 0, 0, 4)", () -> x.frame(1, 0, 0, 4));
        dueNone("13: frame(1, 0, 0, -1)", () -> x.frame(1, 0, 0, -1));
        dueNone("13: frame(1, 4, 0, 0)", () -> x.frame(1, 4, 0, 0));
        dueNone("13: frame(1, -1, 0, 0)", () -> x.frame(1, -1, 0, 0));
        dueNone("13: frame(3, 0, 0, 0)", () -> x.frame(3, 0, 0, 0));
        dueNone("13: frame(-1, 0, 0, 0)", () -> x.frame(-1, 0, 0, 0));
        dueNone("13: frame(0, 0, 0, 0)", () -> x.frame(0, 0, 0, 0));
        dueNone("13: frame(1, 0, 8, 0)", () -> x.frame(1, 0, 8, 0));
    }

    private static void dueExchange(String where, SharedAir x, int s, int... want) {
        for (int what = 0; what < want.length; what++) {
            due("14: " + where + ": exchange(" + s + ", " + what + ")", x.exchange(s, what), want[what]);
        }
    }

    private static void promise14() {
        SharedAir x = made("2ab2");
        x.offers(0, 1, 1, 3);
        x.offers(0, 1, 1, 2);
        x.offers(0, 1, 1, 9);
        x.slots(2);
        due("14: in none", x.exchange(0, 0), -1);
        x.slots(1);
        dueExchange("behind ASK", x, 0, 1, 1, 2, 5, 1, 1, 0);
        due("14: exchange(0, 7)", x.exchange(0, 7), -1);
        due("14: exchange(0, -1)", x.exchange(0, -1), -1);
        due("14: exchange(1, 0)", x.exchange(1, 0), -1);
        due("14: exchange(2, 0)", x.exchange(2, 0), -1);
        due("14: exchange(-1, 0)", x.exchange(-1, 0), -1);
        x.slots(1);
        dueExchange("behind GRANT", x, 0, 1, 1, 2, 5, 2, 5, 0);
        x.slots(2);
        dueExchange("behind two PLACES", x, 0, 1, 1, 2, 5, 2, 3, 0);
        x.slots(1);
        dueExchange("behind one FRAME", x, 0, 1, 1, 2, 5, 2, 2, 1);
        x.slots(2);
        dueExchange("behind DATA", x, 0, 1, 1, 2, 5, 3, 1, 3);
        x.slots(1);
        due("14: over", x.exchange(0, 0), -1);
        due("14: one waits", x.frame(0, 1, 0, 1), 9);
        // What a SETTING becomes changes nothing of an EXCHANGE that goes on.
        SharedAir y = made("2ab2");
        y.offers(0, 0, 1, 5);
        y.offers(0, 0, 1, 5);
        y.slots(3);
        y.sets(1, 1);
        y.sets(0, 10);
        dueExchange("as it began", y, 0, 1, 0, 2, 10, 1, 1, 0);
        due("14: both come", y.slots(12), 2);
    }

    private static void promise15() {
        SharedAir x = askingRun(0);
        due("15: none yet", x.sent(), -2);
        dueRow("15: ROW stays", x);
        x.slots(1);
        due("15: nobody", x.sent(), 0);
        dueRow("15: nobody", x, 0, 0);
        x.slots(2);
        due("15: ASK", x.sent(), 1);
        dueRow("15: ASK", x, 6, 0);
        x.slots(1);
        due("15: GRANT", x.sent(), 2);
        dueRow("15: GRANT", x, 5, 4);
        x.slots(1);
        due("15: DATA", x.sent(), 1);
        x.slots(5);
        due("15: ANSWER", x.sent(), 2);
        dueRow("15: ANSWER", x, 5, 4);
        x.slots(1);
        due("15: over", x.sent(), 0);
        dueRow("15: over", x, 0, 0);
        net(x, "2ab1");
        due("15: none since net()", x.sent(), -2);
        // Two that SEND: who HEARS both is CLEAR for none.
        SharedAir y = made("4ab2bc2cd2");
        y.offers(0, 0, 1, 1);
        y.offers(2, 0, 3, 1);
        y.slots(3);
        due("15: two SEND", y.sent(), 5);
        dueRow("15: d alone is CLEAR", y, 8, 0);
    }

    private static void promise16() {
        SharedAir x = askingRun(2);
        due("16: none yet", x.spanOf(2), -2);
        x.slots(1);
        due("16: by ASK", x.spanOf(2), 0);
        dueRow("16: by ASK", x, 0, 7);
        due("16: y has none", x.spanOf(1), -2);
        due("16: x has none", x.spanOf(0), -2);
        dueRow("16: ROW stays", x, 0, 7);
        due("16: spanOf(3)", x.spanOf(3), -1);
        due("16: spanOf(-1)", x.spanOf(-1), -1);
        x.slots(6);
        due("16: still by ASK", x.spanOf(2), 0);
        dueRow("16: the last SLOT", x, 0, 1);
        x.slots(1);
        due("16: over", x.spanOf(2), -2);

        SharedAir y = made("3ab2bc2");
        y.offers(0, 0, 1, 5);
        y.slots(4);
        due("16: by GRANT", y.spanOf(2), 0);
        dueRow("16: by GRANT", y, 1, 6);

        SharedAir z = made("3ab2bc2ac2");
        z.offers(1, 0, 2, 2);
        z.slots(3);
        due("16: not in the first SLOT of DATA", z.spanOf(0), -2);
        z.slots(1);
        due("16: by DATA", z.spanOf(0), 1);
        dueRow("16: by DATA", z, 2, 1);
    }

    private static void promise17() {
        SharedAir x = made("3ab3bc1");
        due("17: at first", x.rate(0, 1), 1);
        dueRow("17: at first", x, 0, 3);
        due("17: they do not HEAR", x.rate(0, 2), -2);
        due("17: both are one", x.rate(1, 1), -1);
        due("17: rate(3, 0)", x.rate(3, 0), -1);
        due("17: rate(0, 3)", x.rate(0, 3), -1);
        due("17: rate(-1, 0)", x.rate(-1, 0), -1);
        due("17: rate(0, -1)", x.rate(0, -1), -1);
        dueRow("17: ROW stays", x, 0, 3);
        x.offers(0, 0, 1, 1);
        x.slots(4);
        due("17: LUCK", x.rate(0, 1), 1);
        dueRow("17: LUCK", x, 1, 3);
        due("17: the other way", x.rate(1, 0), 1);
        dueRow("17: the other way", x, 0, 3);
    }

    private static void promise18() {
        SharedAir x = made("4ab1bc1cd1");
        due("18: a line", x.hidden(), 2);
        dueRow("18: a line", x, 2, 9);
        net(x, "3ab1bc1ac1");
        due("18: all HEAR", x.hidden(), 0);
        dueRow("18: no numbers", x);
        net(x, "6fa1fb1fc1fd1fe1");
        due("18: a star", x.hidden(), 10);
        dueRow("18: a star", x, 1, 2, 3, 4, 8, 9, 10, 15, 16, 22);
        net(x, "4ab1cd1");
        due("18: no third one", x.hidden(), 0);
    }

    private static void promise19() {
        SharedAir x = askingRun(10);
        int[] want = {1, 5, 0, 1, 0, 6, 0, 10, 10};
        for (int what = 0; what < want.length; what++) {
            due("19: tally(0, " + what + ")", x.tally(0, what), want[what]);
        }
        due("19: b SENT", x.tally(1, 5), 2);
        due("19: b has nothing else", x.tally(1, 0) + x.tally(1, 3), 0);
        x.offers(0, 0, 1, 1);
        x.slots(30);
        due("19: two", x.tally(0, 0), 2);
        due("19: UNITS", x.tally(0, 1), 6);
        due("19: the most", x.tally(0, 8), 10);
        // Offered at T = 10; STILL is 0 behind SLOT 9, COUNT is 2: 3 SLOTS, 2 more, DATA, ANSWER.
        due("19: together", x.tally(0, 7), 16);
        for (int what = -1; what <= 9; what += 10) {
            int w = what;
            dueNone("19: tally(0, " + w + ")", () -> x.tally(0, w));
        }
        dueNone("19: tally(3, 0)", () -> x.tally(3, 0));
        dueNone("19: tally(-1, 0)", () -> x.tally(-1, 0));

        SharedAir y = made("3ab1bc1");
        y.sets(2, 1);
        y.offers(0, 0, 1, 1);
        y.offers(0, 1, 1, 1);
        y.offers(2, 0, 1, 1);
        y.slots(4);
        due("19: LOST", y.tally(0, 2), 2);
        due("19: begun", y.tally(0, 3), 1);
        due("19: FAILED", y.tally(0, 4), 1);
        due("19: INSIDE", y.tally(0, 6), 1);
        due("19: LOST of c", y.tally(2, 2), 1);
    }

    private static void promise20() {
        SharedAir x = made("3ab2bc2");
        due("20: none FAILED", x.why(0), -2);
        due("20: why(3)", x.why(3), -1);
        due("20: why(-1)", x.why(-1), -1);
        x.offers(0, 0, 1, 5);
        x.offers(2, 0, 1, 5);
        x.slots(4);
        due("20: not CLEAR in ASK", x.why(0), 1);
        dueRow("20: not CLEAR in ASK", x, 3, 1);
        due("20: c", x.why(2), 1);

        SharedAir y = made("4ab2bc2cd2");
        y.offers(0, 0, 1, 9);
        y.slots(4);
        y.offers(3, 0, 2, 9);
        y.slots(1);
        due("20: a GRANT is not owed", y.station(2, 4), 0);
        y.slots(1);
        due("20: its SPAN RAN in ASK", y.why(3), 3);
        dueRow("20: its SPAN RAN in ASK", y, 5, 2);

        SharedAir z = grantUnheard(5);
        due("20: x not CLEAR in GRANT", z.why(0), 4);
        dueRow("20: x not CLEAR in GRANT", z, 4, 1);

        SharedAir u = made("3ab2bc2");
        u.offers(0, 0, 1, 1);
        u.offers(2, 0, 1, 1);
        u.slots(4);
        due("20: nothing WHOLE", u.why(0), 5);
        dueRow("20: nothing WHOLE", u, 3, 1);

        SharedAir v = made("3ab2ac2bc2");
        v.offers(0, 0, 1, 1);
        v.offers(0, 0, 1, 1);
        v.offers(1, 0, 2, 1);
        v.slots(5);
        due("20: b's FRAME was not WHOLE", v.why(1), 5);
        dueRow("20: b's FRAME was not WHOLE", v, 3, 2);
        due("20: not FREE behind DATA", v.why(0), 6);
        dueRow("20: not FREE behind DATA", v, 4, 1);

        SharedAir w = grantUnheard(1);
        due("20: x not CLEAR in ANSWER", w.why(0), 7);
        dueRow("20: x not CLEAR in ANSWER", w, 4, 1);
        due("20: d is well", w.why(3), -2);
    }

    /** a turns to b in SLOT 3 while c has DATA from d; in SLOT 4 b and c SEND at once. */
    private static SharedAir grantUnheard(int units) {
        SharedAir x = made("4ab2ac2cd2");
        x.offers(3, 0, 2, 1);
        x.offers(3, 0, 2, 1);
        x.offers(0, 2, 1, units);
        x.slots(4);
        due("the ANSWER is owed", x.station(2, 4), 2);
        due("b owes " + units, x.station(1, 4), units == 1 ? 2 : 1);
        x.slots(1);
        due("d's first FRAME came", x.tally(3, 0), 1);
        due("d's other one was TRIED", x.frame(3, 0, 0, 2), 1);
        return x;
    }

    private static void promise21() {
        SharedAir x = grantUnheard(1);
        due("21: spoilt(3, 0)", x.spoilt(3, 0), 1);
        dueRow("21: PLACES", x, 2);
        due("21: spoilt(0, 3)", x.spoilt(0, 3), 0);
        dueRow("21: PLACES", x, 1);
        due("21: y itself", x.spoilt(3, 2), 0);
        due("21: spoilt(0, 0)", x.spoilt(0, 0), -1);
        due("21: spoilt(4, 0)", x.spoilt(4, 0), -1);
        due("21: spoilt(0, 4)", x.spoilt(0, 4), -1);
        due("21: spoilt(-1, 0)", x.spoilt(-1, 0), -1);
        due("21: spoilt(0, -1)", x.spoilt(0, -1), -1);
        dueRow("21: ROW stays", x, 2);
        // y SENDS itself, and c too, whom it HEARS; d, whom it does not hear, SENDS in vain.
        SharedAir y = made("5ab2bc2cd2ad2be2");
        y.offers(0, 0, 1, 1);
        y.offers(1, 0, 2, 1);
        y.offers(2, 0, 3, 1);
        y.offers(3, 0, 0, 1);
        y.slots(3);
        due("21: by c", y.spoilt(0, 2), 1);
        due("21: by y itself", y.spoilt(0, 1), 0);
        due("21: by d, unheard", y.spoilt(0, 3), 0);
    }

    private static void promise22() {
        SharedAir x = made("3ab2bc2ac2");
        x.offers(0, 0, 1, 5);
        x.offers(2, 3, 1, 1);
        x.slots(4);
        // SLOTS 0 and 1: nothing. SLOT 2: the ASK is heard as no SPAN RUNS yet. SLOT 3: the SPAN RUNS.
        due("22: c", x.held(2), 4);
        dueRow("22: c", x, 1, 1, 2);
        due("22: a", x.held(0), 2);
        dueRow("22: a", x, 0, 0, 2);
        due("22: b has no FRAMES", x.held(1), 0);
        dueRow("22: b has no FRAMES", x, 0, 0, 0);
        due("22: held(3)", x.held(3), -1);
        due("22: held(-1)", x.held(-1), -1);
        x.offers(1, 3, 0, 1);
        x.slots(5);
        // b owes an ANSWER in SLOT 9 alone; it HEARS a in SLOTS 4 .. 8.
        due("22: b", x.held(1), 5);
        dueRow("22: b", x, 0, 5, 0);
        x.slots(1);
        due("22: b SENDS", x.held(1), 5);
    }

    private static void promise23() {
        SharedAir x = made("2ab1");
        due("23: nothing", x.even(), -2);
        dueRow("23: ROW stays", x);
        x.offers(0, 0, 1, 3);
        x.slots(10);
        due("23: a alone", x.even(), 0);
        dueRow("23: a alone", x, 1, 2);
        x.offers(1, 0, 0, 1);
        x.slots(10);
        due("23: both", x.even(), 0);
        dueRow("23: 16 by 2 times 10", x, 4, 5);
        net(x, "3ab1bc1");
        due("23: nothing since net()", x.even(), -2);
    }

    private static void promise24() {
        SharedAir x = made("3ab2bc2");
        due("24: none", x.busy(), 0);
        dueRow("24: none", x, 0, 0);
        x.offers(0, 0, 1, 1);
        x.offers(2, 0, 1, 1);
        x.slots(4);
        due("24: both at once", x.busy(), 0);
        dueRow("24: both at once", x, 3, 1);
        x.slots(40);
        due("24: just one", x.busy() > 0, true);
        due("24: all SLOTS", x.busy() + of(() -> x.row(0)) + of(() -> x.row(1)), 44);
        due("24: as they SENT", x.busy() + 2 * of(() -> x.row(1)), x.tally(0, 5) + x.tally(1, 5) + x.tally(2, 5));
    }

    private static void dueOdds(int n, int w, long upper, long lower) {
        SharedAir x = new SharedAir();
        due("25: odds(" + n + ", " + w + ")", x.odds(n, w), 0);
        dueRow("25: odds(" + n + ", " + w + ")", x, upper, lower);
    }

    private static void promise25() {
        dueOdds(1, 0, 1, 1);
        dueOdds(1, 31, 1, 1);
        dueOdds(2, 0, 0, 1);
        dueOdds(5, 0, 0, 1);
        dueOdds(2, 1, 1, 2);
        dueOdds(2, 31, 31, 32);
        dueOdds(3, 1, 3, 8);
        dueOdds(3, 2, 5, 9);
        dueOdds(4, 1, 1, 4);
        dueOdds(5, 1, 5, 32);
        dueOdds(5, 2, 85, 243);
        // 5 times 6197520 (1 + 16 + .. + 31 to the fourth) by 32 to the fifth.
        dueOdds(5, 31, 1936725, 2097152);
        SharedAir x = new SharedAir();
        x.odds(2, 1);
        due("25: odds(0, 1)", x.odds(0, 1), -1);
        due("25: odds(6, 1)", x.odds(6, 1), -1);
        due("25: odds(1, -1)", x.odds(1, -1), -1);
        due("25: odds(1, 32)", x.odds(1, 32), -1);
        dueRow("25: ROW stays", x, 1, 2);
    }

    private static void promise26() {
        SharedAir x = new SharedAir();
        due("26: window(1, 100)", x.window(1, 100), 0);
        due("26: window(2, 0)", x.window(2, 0), 0);
        due("26: window(2, 1)", x.window(2, 1), 1);
        due("26: window(2, 50)", x.window(2, 50), 1);
        due("26: window(2, 51)", x.window(2, 51), 2);
        due("26: window(2, 75)", x.window(2, 75), 3);
        due("26: window(2, 96)", x.window(2, 96), 24);
        due("26: window(2, 97)", x.window(2, 97), -2);
        due("26: window(5, 92)", x.window(5, 92), 30);
        due("26: window(5, 93)", x.window(5, 93), -2);
        due("26: window(0, 1)", x.window(0, 1), -1);
        due("26: window(6, 1)", x.window(6, 1), -1);
        due("26: window(2, -1)", x.window(2, -1), -1);
        due("26: window(2, 101)", x.window(2, 101), -1);
        dueRow("26: no ROW", x);
    }

    private static void promise27() {
        SharedAir x = made("3ab1bc1");
        x.sets(2, 1);
        x.offers(0, 0, 1, 1);
        x.offers(0, 1, 1, 1);
        x.offers(2, 0, 1, 1);
        x.offers(2, 0, 1, 2);
        x.sets(1, 1);
        due("27: LOST", x.ahead(4, 1), 3);
        due("27: FAIL", x.ahead(4, 2), 2);
        due("27: DELIVERED", x.ahead(4, 0), 0);
        due("27: wait", x.ahead(4, 3), 1);
        due("27: who SENDS", x.ahead(3, 4), 5);
        due("27: nobody SENDS", x.ahead(4, 4), 0);
        due("27: DELIVERED", x.ahead(60, 0), 1);
        due("27: ahead(0, 0)", x.ahead(0, 0), -1);
        due("27: ahead(61, 0)", x.ahead(61, 0), -1);
        due("27: ahead(1, -1)", x.ahead(1, -1), -1);
        due("27: ahead(1, 5)", x.ahead(1, 5), -1);
        due("27: T stays", x.count(1), 0);
        due("27: SEED stays", x.setting(12), 1);
        due("27: all wait", x.count(2), 4);
        dueRow("27: no ROW", x);
        x.slots(4);
        due("27: LOST from here", x.ahead(4, 1), 0);
        due("27: FAIL from here", x.ahead(1, 2), 0);
    }

    private static void promise28() {
        SharedAir x = made("2ab1");
        due("28: so it is", x.quiet(), 0);
        dueRow("28: so it is", x, 0);
        x.offers(0, 0, 1, 1);
        due("28: one", x.quiet(), 4);
        dueRow("28: one", x, 1);
        x.slots(3);
        due("28: an EXCHANGE goes on", x.quiet(), 1);
        due("28: T stays", x.count(1), 3);
        x.slots(1);
        due("28: quiet", x.quiet(), 0);
        dueRow("28: none from here", x, 0);
        SharedAir y = made("2ab1");
        for (int i = 0; i < 8; i++) {
            for (int r = 0; r < 4; r++) {
                y.offers(0, r, 1, 9);
            }
        }
        due("28: not by then", y.quiet(), -2);
        dueRow("28: ROW stays", y);
        SharedAir z = new SharedAir();
        z.sets(1, 1);
        z.sets(3, 1);
        z.sets(7, 15);
        net(z, "2ab3");
        for (int i = 0; i < 7; i++) {
            z.offers(0, 0, 1, 5);
        }
        due("28: 100 SLOTS are too many", z.quiet(), -2);
        z.slots(1);
        due("28: 99 are not", z.quiet(), 99);
        due("28: it takes so many", goTillDelivered(z, 7), 99);
    }

    private static void promise29() {
        SharedAir x = made("3ab2bc2");
        due("29: none", x.next(), -2);
        x.offers(0, 0, 1, 5);
        x.offers(2, 0, 1, 5);
        due("29: both", x.next(), 2);
        dueRow("29: both", x, 5);
        x.slots(2);
        due("29: in the next one", x.next(), 0);
        x.slots(1);
        // Both FAIL in SLOT 3 and DRAW 6 of WINDOW 7; STILL is 3 behind SLOT 5, and COUNT 0 behind SLOT 10.
        due("29: again", x.next(), 8);
        dueRow("29: again", x, 5);
        due("29: T stays", x.count(1), 3);
        net(x, "2ab1");
        due("29: none again", x.next(), -2);
        dueRow("29: ROW stays", x, 5);
        // c's RANK 1 met INSIDE: its WINDOW is 63. It DRAWS 63 while a SENDS 36 PLACES and WAITS 9 SLOTS behind that.
        SharedAir y = new SharedAir();
        y.sets(1, 4);
        y.sets(4, 9);
        y.sets(8, 31);
        y.sets(11, 63);
        net(y, "3ab1bc1ac1");
        y.slots(9);
        y.offers(2, 0, 1, 1);
        y.offers(2, 1, 1, 1);
        y.slots(2);
        due("29: WINDOW", y.rank(2, 1, 2), 63);
        for (int i = 0; i < 4; i++) {
            y.offers(0, 0, 1, 9);
        }
        y.slots(3);
        due("29: ASK", y.exchange(0, 4), 1);
        Edges.drawCounts(y, -1, 63);
        due("29: COUNT", y.rank(2, 1, 1), 63);
        // c begins in the 111th SLOT on; next() looks at 99 of them, T .. T + 98.
        due("29: 110 SLOTS are ahead of it", y.next(), -2);
        y.slots(10);
        due("29: 100 are, it is the 101st SLOT on", y.next(), -2);
        y.slots(1);
        y.busy();
        due("29: 99 are, it is the 100th SLOT on", y.next(), -2);
        due("29: ROW stays", y.count(5), 2);
        y.slots(1);
        due("29: 98 are, it is the 99th SLOT on", y.next(), 98);
        dueRow("29: c begins", y, 4);
        y.slots(60);
        due("29: 38 are", y.next(), 38);
        y.slots(38);
        due("29: so it does", y.next(), 0);
        dueRow("29: c", y, 4);
    }

    private static void promise30() {
        SharedAir x = made("4ab2bc2ac2");
        due("30: the least of equals", x.soonest(1), 0);
        dueRow("30: by a", x, 4);
        due("30: to a", x.soonest(0), 1);
        due("30: nobody HEARS d", x.soonest(3), -2);
        dueRow("30: ROW stays", x, 4);
        due("30: soonest(4)", x.soonest(4), -1);
        due("30: soonest(-1)", x.soonest(-1), -1);
        due("30: nothing is offered", x.count(2) + x.count(1), 0);
        x.offers(0, 0, 1, 9);
        // a has one FRAME of nine ahead: both together ASK for ten PLACES. c's one goes alone, but begins with a.
        due("30: a", x.soonest(1), 0);
        dueRow("30: ASK, GRANT, ten PLACES, ANSWER", x, 15);
        x.draws();
        due("30: a has a COUNT, c has none", x.soonest(1), 2);
        dueRow("30: by c", x, 4);
        SharedAir y = made("2ab2");
        for (int i = 0; i < 7; i++) {
            y.offers(0, 0, 1, 9);
        }
        // 7 FRAMES of nine PLACES at RATE 1, two by two, 3 PLACES each of RATE 3 at last.
        int by = y.soonest(1);
        due("30: by a", by, 0);
        long takes = of(() -> y.row(0));
        y.offers(0, 0, 1, 1);
        due("30: its QUEUE is full", y.soonest(1), -2);
        due("30: as it comes to be", goTillDelivered(y, 8), takes);

        SharedAir z = new SharedAir();
        z.sets(1, 1);
        z.sets(3, 9);
        z.sets(7, 31);
        net(z, "2ab1");
        for (int i = 0; i < 7; i++) {
            z.offers(1, 0, 0, 9);
        }
        due("30: too late for 99", z.soonest(0), -2);
        int late = 0;
        while (z.soonest(0) < 0 && late < 600) {
            z.slots(1);
            late++;
        }
        due("30: as soon as 99 are enough", of(() -> z.row(0)), 99);
    }

    private static int goTillDelivered(SharedAir x, int delivered) {
        int took = 0;
        while (x.count(7) < delivered && took < 200) {
            x.slots(1);
            took++;
        }
        return took;
    }

    private static void promise31() {
        SharedAir x = made("3ab1bc1");
        due("31: an empty one", day(x, ""), 0);
        dueRow("31: an empty one", x, 0, 0);
        due("31: not kept", x.count(4), 1);
        due("31: all ACTS", day(x, "fa0b2ds60"), 3);
        dueRow("31: all ACTS", x, 0, 1);
        due("31: one to undo", x.count(4), 2);
        due("31: TEXT is empty", x.count(6), 0);
        due("31: T", x.count(1), 60);
        due("31: DRAWN", x.setting(12) != 1, true);
        due("31: not HEARD", day(x, "s05fa0c2s05"), 1);
        dueRow("31: not HEARD", x, 1, 0);
        due("31: T", x.count(1), 65);
        due("31: no such STATION", day(x, "fd0a1d"), 0);
        dueRow("31: no such STATION", x, 1, 0);
        due("31: not kept", x.count(4), 3);
        due("31: s00", day(x, "ds00d"), 1);
        due("31: s61", day(x, "s61"), 0);
        due("31: s60", day(x, "s60"), 1);
        String[] faulty = {"x", "dx", "f", "fg", "f0", "fa", "fa4", "fa0", "fa0g", "fa00", "fa0b", "fa0b0", "s", "sa", "s1", "s1a", "ds10 ",
            "fa0b1s10dD", "s 1", "fA0b1"};
        int[] at = {0, 1, 1, 1, 1, 2, 2, 3, 3, 3, 4, 4, 1, 1, 2, 2, 4, 9, 1, 1};
        int t = x.count(1);
        for (int i = 0; i < faulty.length; i++) {
            due("31: day() of " + faulty[i], day(x, faulty[i]), -1 - at[i]);
            due("31: TEXT is empty", x.count(6), 0);
        }
        due("31: nothing is done", x.count(1), t);
        due("31: no FRAME came", x.count(2), 0);
        dueRow("31: ROW stays", x, 0, 0);
        due("31: all RANKS and UNITS", day(x, "fa3b9fc0b1fb1a5"), 3);
        due("31: RANK 3", x.frame(0, 3, 0, 1), 9);
        due("31: from c", x.frame(2, 0, 0, 0), 1);
        due("31: full", day(x, "fa3b9fa3b9fa3b9fa3b9fa3b9fa3b9fa3b9fa3b9"), 7);
        dueRow("31: full", x, 1, 0);
        due("31: undone as one", x.undo() >= 0 && x.rank(0, 3, 0) == 1, true);
    }

    private static void promise32() {
        SharedAir x = new SharedAir();
        due("32: none", x.undo(), -1);
        net(x, "2ab1");
        net(x, "7");
        x.sets(0, 6);
        x.sets(0, 6);
        x.sets(0, 99);
        x.offers(0, 0, 1, 1);
        x.offers(0, 0, 0, 1);
        x.slots(4);
        x.slots(0);
        x.draws();
        due("32: five", x.count(4), 5);
        due("32: of draws()", x.undo(), 4);
        due("32: of slots()", x.undo(), 3);
        due("32: T", x.count(1), 0);
        due("32: with what was had", x.tally(0, 0) + x.busy() + x.count(7), 0);
        due("32: SEED", x.setting(12), 1);
        due("32: sent", x.sent(), -2);
        due("32: the FRAME waits", x.count(2), 1);
        due("32: of offers()", x.undo(), 2);
        due("32: no FRAME", x.count(2), 0);
        due("32: of sets()", x.undo(), 1);
        due("32: ASKING", x.setting(0), 5);
        due("32: of net()", x.undo(), 0);
        due("32: no STATIONS", x.count(0), 0);
        due("32: none is left", x.undo(), -1);
        net(x, "2ab1");
        for (int n = 1; n <= 8; n++) {
            x.slots(n);
            due("32: 6 at most", x.count(4), Math.min(6, n + 1));
        }
        x.sheet(0, 2, 2, 1, 1);
        due("32: sheet() is not kept", x.count(4), 6);
        x.sign(1);
        for (int n = 5; n >= 0; n--) {
            due("32: the latest", x.undo(), n);
            due("32: T", x.count(1), (n + 2) * (n + 3) / 2);
        }
        due("32: sheet() is undone with it", x.count(2), 0);
        due("32: TEXT stays", x.count(6), 4);
        dueRow("32: ROW stays", x, 0, 0, 0);
        due("32: no more", x.undo(), -1);
        due("32: T stays", x.count(1), 3);
        x.sets(12, 1);
        due("32: SEED as it is can be undone", x.count(4), 1);
        // In the midst of an EXCHANGE.
        SharedAir y = askingRun(5);
        y.slots(5);
        y.undo();
        due("32: it goes on", y.exchange(0, 5), 4);
        due("32: and comes", y.slots(5), 1);
        SharedAir z = made("3ab2bc2");
        z.offers(0, 0, 1, 5);
        z.slots(4);
        z.keep(0);
        net(z, "6ab2");
        z.undo();
        due("32: SPAN", z.spanOf(2), 0);
        dueRow("32: SPAN by GRANT", z, 1, 6);
        z.slots(7);
        z.again(0);
        due("35: SPAN", z.spanOf(2), 0);
        dueRow("35: SPAN by GRANT", z, 1, 6);
        due("35: the GRANT was heard", z.sent(), 2);
        dueRow("35: by a and c", z, 5, 0);
    }

    private static void promise33() {
        SharedAir x = made("2ab1");
        x.slots(2);
        due("33: seven SLOTS", x.years(1, 1), 0);
        dueRow("33: seven SLOTS", x, 0, 0, 7);
        due("33: a to b, 1 UNIT, 8 SLOTS", x.years(113, 2), 1);
        dueRow("33: a to b, 1 UNIT, 8 SLOTS", x, 0, 0, 8);
        due("33: a to b, 1 UNIT", x.years(113, 1), 0);
        dueRow("33: a to b, 1 UNIT", x, 0, 1, 0);
        due("33: 1 of 3 offers too", x.years(11875, 1), 0);
        dueRow("33: 1 of 3 offers too", x, 0, 1, 0);
        due("33: refused, 8 SLOTS", x.years(1575, 2), 0);
        dueRow("33: refused, 8 SLOTS", x, 0, 0, 8);
        due("33: years(1, 0)", x.years(1, 0), -1);
        due("33: years(1, 41)", x.years(1, 41), -1);
        dueRow("33: ROW stays", x, 0, 0, 8);
        due("33: it is forgotten", x.count(1) * 10 + x.count(2), 20);
        due("33: SEED stays", x.setting(12), 1);
        due("33: not kept", x.count(4), 2);
        x.years(7, 40);
        due("33: SLOTS that went by", of(() -> x.row(2)) > 0, true);
    }

    private static void promise34and35() {
        SharedAir x = made("2ab1");
        due("35: nothing kept", x.again(0), false);
        x.offers(0, 0, 1, 1);
        x.slots(4);
        due("34: keep(0)", x.keep(0), true);
        due("34: keep(2)", x.keep(2), false);
        due("34: keep(-1)", x.keep(-1), false);
        due("34: what can be undone stays", x.count(4), 3);
        due("35: nothing under 1", x.again(1), false);
        due("35: what can be undone stays", x.count(4), 3);
        x.sets(0, 9);
        net(x, "6ab1");
        due("34: keep(1)", x.keep(1), true);
        x.slots(9);
        x.sign(1);
        due("35: again(0)", x.again(0), true);
        due("35: STATIONS", x.count(0), 2);
        due("35: T", x.count(1), 4);
        due("35: ASKING", x.setting(0), 5);
        due("35: what was had", x.tally(0, 0), 1);
        due("35: LUCK", x.rate(0, 1), 1);
        dueRow("35: LUCK", x, 1, 1);
        due("35: nothing can be undone", x.count(4), 0);
        due("35: undo", x.undo(), -1);
        due("35: TEXT stays", x.count(6), 4);
        x.slots(5);
        due("35: again(0) once more", x.again(0), true);
        due("35: T", x.count(1), 4);
        due("35: again(1)", x.again(1), true);
        due("35: STATIONS", x.count(0), 6);
        due("35: again(2)", x.again(2), false);
        due("35: again(-1)", x.again(-1), false);
        x.slots(3);
        x.keep(1);
        x.slots(3);
        x.again(1);
        due("34: the latest one", x.count(1), 3);
        x.slots(1);
        due("35: undo goes on", x.undo(), 0);
    }

    private static void promise36() {
        SharedAir x = made("3ab1bc1");
        x.offers(0, 0, 1, 1);
        x.offers(2, 3, 1, 9);
        x.slots(3);
        x.sign(5);
        int[] want = {3, 3, 2, 1, 4, 3, 4, 0};
        for (int what = 0; what < want.length; what++) {
            due("36: count(" + what + ")", x.count(what), want[what]);
        }
        due("36: count(8)", x.count(8), -1);
        due("36: count(-1)", x.count(-1), -1);
        x.slots(1);
        due("36: DELIVERED", x.count(7), 1);
        due("36: one waits", x.count(2), 1);
        due("36: none goes on", x.count(3), 0);
    }

    private static void promise37() {
        SharedAir x = new SharedAir();
        dueNone("37: row(0)", () -> x.row(0));
        x.odds(3, 1);
        due("37: row(0)", of(() -> x.row(0)), 3);
        due("37: row(1)", of(() -> x.row(1)), 8);
        dueNone("37: row(2)", () -> x.row(2));
        dueNone("37: row(-1)", () -> x.row(-1));
        dueNone("37: row(MAX)", () -> x.row(Integer.MAX_VALUE));
        x.count(0);
        x.window(2, 5);
        x.even();
        due("37: it stays", of(() -> x.row(1)), 8);
        x.quiet();
        due("37: another one", of(() -> x.row(0)), 0);
        dueNone("37: shorter", () -> x.row(1));
    }

    // ---- the steps (a) to (g)

    private static void shortFrame() {
        SharedAir x = made("2ab2");
        x.offers(0, 0, 1, 4);
        x.slots(3);
        due("(c) below ASKING: DATA at once", x.exchange(0, 4), 2);
        due("(c) three PLACES left", x.exchange(0, 5), 3);
        due("(c) ANSWER behind four PLACES", x.slots(3), 0);
        due("(e) owed", x.station(1, 4), 2);
        due("(e) DELIVERED", x.slots(1), 1);
        SharedAir y = made("2ab2");
        y.sets(0, 4);
        y.offers(0, 0, 1, 4);
        y.slots(3);
        due("(c) as many as ASKING: ASK", y.exchange(0, 4), 1);
    }

    private static void together() {
        SharedAir x = made("3ab2ac2");
        x.sets(1, 3);
        x.offers(0, 0, 1, 1);
        x.offers(0, 0, 2, 1);
        x.offers(0, 0, 1, 1);
        x.slots(3);
        due("together: those to one alone", x.exchange(0, 2), 1);
        SharedAir y = made("3ab2ac2");
        y.sets(1, 3);
        for (int i = 0; i < 4; i++) {
            y.offers(0, 0, 1, 1);
        }
        y.slots(3);
        due("together: 3 at most", y.exchange(0, 2), 3);
        due("together: 3 come", y.slots(3), 3);
        due("together: one COUNT is DRAWN", y.rank(0, 0, 1), 16838 % 4);
        due("together: one waits", y.count(2), 1);
        // b HEARS c in SLOT 3: of a's two FRAMES the first one comes, the other is TRIED, and LOST by TRIES 1.
        // c's one is LOST too, as c HEARS both ANSWERS at once.
        SharedAir z = made("4ab2bc2cd2");
        z.sets(2, 1);
        z.offers(0, 0, 1, 1);
        z.offers(0, 0, 1, 1);
        z.offers(2, 2, 3, 1);
        due("together: one comes", z.slots(5), 1);
        dueRow("together: the other is LOST", z, 2, 1, 0);
        due("together: of a", z.tally(0, 2), 1);
        due("together: a's EXCHANGE did not FAIL", z.tally(0, 4), 0);
        due("together: it leaves", z.count(2), 0);
        due("together: LUCK", z.rate(0, 1), 1);
        dueRow("together: LUCK", z, 1, 2);
    }

    private static void ratesGoUpAndDown() {
        SharedAir x = made("2ab1");
        for (int i = 0; i < 3; i++) {
            x.offers(0, 0, 1, 2);
            x.slots(20);
        }
        due("RATE up by LUCK 3", x.rate(0, 1), 2);
        dueRow("LUCK is 0", x, 0, 1);
        x.offers(0, 0, 1, 3);
        int slots = 0;
        while (x.count(3) == 0 && slots < 60) {
            x.slots(1);
            slots++;
        }
        due("PLACES rounded up", x.exchange(0, 3), 2);
        x.slots(2);
        due("not WHOLE by QUALITY", x.why(0), 5);
        due("RATE down", x.rate(0, 1), 1);
        dueRow("LUCK is 0", x, 0, 1);
        due("TRIED", x.frame(0, 0, 0, 2), 1);

        SharedAir y = made("2ab3");
        for (int i = 0; i < 9; i++) {
            y.offers(0, 0, 1, 1);
            y.slots(20);
        }
        due("RATE 3 at most", y.rate(0, 1), 3);
        dueRow("LUCK is 0 there too", y, 0, 3);
        y.offers(0, 0, 1, 7);
        int more = 0;
        while (y.count(3) == 0 && more < 60) {
            y.slots(1);
            more++;
        }
        due("7 UNITS by RATE 3", y.exchange(0, 3), 3);
    }

    private static void inside() {
        SharedAir x = made("2ab2");
        x.sets(5, 2);
        x.sets(6, 2);
        for (int r = 0; r < 4; r++) {
            x.offers(0, 3 - r, 1, 1);
        }
        x.offers(0, 3, 1, 1);
        x.slots(3);
        dueRow("INSIDE: three", x, 0, 0, 3);
        due("INSIDE: the least RANK begins", x.exchange(0, 1), 0);
        due("INSIDE: RANK 1 DRAWS first", x.rank(0, 1, 1), 16838 % 16);
        due("INSIDE: then RANK 2", x.rank(0, 2, 1), 38526 % 32);
        due("INSIDE: then RANK 3", x.rank(0, 3, 1), 10113 % 32);
        due("INSIDE: WINDOW", x.rank(0, 2, 2), 31);
        due("INSIDE: the first one was TRIED", x.frame(0, 3, 0, 2), 1);
        due("INSIDE: the others were not", x.frame(0, 3, 1, 2), 0);
        due("INSIDE: no RATE", x.rate(0, 1), 1);
        due("INSIDE: it is no FAILED EXCHANGE", x.tally(0, 4), 0);
        due("INSIDE: why", x.why(0), -2);
    }

    private static void lost() {
        SharedAir x = made("3ab2bc2");
        x.sets(2, 2);
        x.sets(7, 1);
        x.sets(11, 63);
        x.offers(0, 0, 1, 1);
        x.offers(2, 0, 1, 1);
        x.slots(4);
        due("TRIED once", x.frame(0, 0, 0, 2), 1);
        due("WINDOW twice and 1", x.rank(0, 0, 2), 7);
        // Both DRAW 6: they meet again.
        x.slots(12);
        dueRow("LOST by TRIES", x, 2, 2, 0);
        due("WINDOW is the LEAST", x.rank(0, 0, 2), 1);
        due("they leave", x.count(2), 0);
        // TRIES that became fewer.
        SharedAir y = made("3ab2bc2");
        y.offers(0, 0, 1, 1);
        y.offers(2, 0, 1, 1);
        y.slots(4);
        y.sets(2, 1);
        y.slots(12);
        dueRow("LOST by fewer TRIES", y, 2, 2, 0);
    }

    private static void windowsGrow() {
        SharedAir x = made("3ab2bc2");
        x.sets(11, 10);
        x.sets(2, 7);
        x.sets(12, 1);
        x.offers(0, 0, 1, 1);
        x.offers(2, 0, 1, 1);
        x.slots(4);
        due("WINDOW 7", x.rank(0, 0, 2), 7);
        due("WINDOW 7", x.rank(2, 0, 2), 7);
        x.slots(12);
        due("the GREATEST at most", x.rank(0, 0, 2), 10);
        x.sets(11, 4);
        SharedAir y = made("3ab2bc2");
        y.sets(11, 2);
        y.offers(0, 0, 1, 1);
        y.offers(2, 0, 1, 1);
        y.slots(4);
        due("the GREATEST, if it is less", y.rank(0, 0, 2), 2);
    }

    private static void countsGoDown() {
        SharedAir x = made("3ab2");
        x.offers(0, 1, 1, 1);
        x.draws();
        due("COUNT", x.rank(0, 1, 1), 6);
        x.slots(2);
        due("STILL as WAIT: not yet", x.rank(0, 1, 1), 6);
        x.slots(1);
        due("STILL above WAIT", x.rank(0, 1, 1), 5);
        x.slots(4);
        due("SLOT by SLOT", x.rank(0, 1, 1), 1);
        x.offers(1, 0, 0, 1);
        x.slots(1);
        due("b begins as a HEARS it", x.rank(0, 1, 1), 1);
        x.slots(3);
        due("it holds back", x.rank(0, 1, 1), 1);
        due("STILL anew", x.station(0, 0), 2);
        x.slots(1);
        due("and goes on", x.rank(0, 1, 1), 0);
        x.slots(1);
        due("it begins", x.exchange(0, 0), 1);
        // Empty QUEUES keep their COUNT.
        SharedAir y = made("2ab2");
        y.offers(0, 0, 1, 1);
        y.slots(4);
        due("DRAWN for an empty QUEUE", y.rank(0, 0, 1), 2);
        y.slots(20);
        due("it stays", y.rank(0, 0, 1), 2);
    }

    private static void spansKeep() {
        SharedAir x = made("3ab2bc2");
        x.offers(0, 0, 1, 5);
        x.offers(2, 3, 1, 1);
        x.slots(10);
        due("c is kept by its SPAN", x.tally(2, 3), 0);
        due("a's FRAME came", x.count(7), 1);
        due("STILL while the SPAN RAN", x.station(2, 0), 0);
        x.slots(1);
        due("STILL behind it", x.station(2, 0), 1);
        x.held(2);
        // SLOTS 0 .. 2 nothing, 3 the GRANT is heard, 4 .. 9 the SPAN, 10 nothing.
        dueRow("c is kept by its SPAN", x, 6, 1, 4);
        // A longer SPAN stays, a shorter one does not take its place.
        SharedAir y = made("4ab2bc2cd2ad2");
        y.offers(0, 0, 1, 9);
        y.slots(4);
        due("d by ASK", y.spanOf(3), 0);
        due("d by ASK", y.station(3, 1), 14);
        due("c by GRANT", y.station(2, 1), 14);
        y.slots(9);
        due("the end of DATA is less", y.station(3, 1), 14);
    }

    private static void stepsGoByNumbers() {
        // b's two FRAMES to a, a's one to c, from SLOT 2 on: a's EXCHANGE is over in SLOT 3 ahead of b's step.
        SharedAir x = made("3ab2ac2bc2");
        x.offers(1, 0, 0, 1);
        x.offers(1, 0, 0, 1);
        x.offers(0, 0, 2, 1);
        x.slots(4);
        due("a is FREE by then", x.station(0, 4), 2);
        due("b's other FRAME comes", x.slots(1), 1);
        due("b's first one stays", x.frame(1, 0, 0, 2), 1);
        due("DRAWN by a in SLOT 3", x.rank(0, 0, 1), 16838 % 8);
        due("DRAWN by b in SLOT 4", x.rank(1, 0, 1), 38526 % 4);
    }
}
