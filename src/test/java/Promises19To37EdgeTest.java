/** Each sentence of the document's Promises 19 to 37 that names a boundary case. */
public final class Promises19To37EdgeTest {
    private static final Edges t = new Edges();

    public static void main(String[] args) {
        tally();
        why();
        spoilt();
        held();
        even();
        busy();
        odds();
        window();
        ahead();
        quiet();
        next();
        soonest();
        dayActs();
        dayFaults();
        dayDone();
        undo();
        undoOfDays();
        years();
        keep();
        again();
        count();
        row();
        String[] wanted = new String[19];
        for (int p = 19; p <= 37; p++) {
            wanted[p - 19] = "Promise " + p;
        }
        t.finish("Promises 19 to 37", wanted);
    }

    // ---- 19 .. 26: who had how much

    private static void tally() {
        String none = "NoSuchElementException: none such, another what.";
        t.edge("Promise 19", none, "none such", () -> {
            SharedAir x = Edges.made("2ab1");
            t.due("tally(1, 0)", x.tally(1, 0), 0);
            t.dueThrow("tally(2, 0)", () -> x.tally(2, 0));
            t.dueThrow("tally(-1, 0)", () -> x.tally(-1, 0));
            t.dueThrow("tally(6, 0)", () -> x.tally(6, 0));
        });
        t.edge("Promise 19", none, "another what", () -> {
            SharedAir x = Edges.made("2ab1");
            t.due("tally(0, 8)", x.tally(0, 8), 0);
            t.dueThrow("tally(0, 9)", () -> x.tally(0, 9));
            t.dueThrow("tally(0, -1)", () -> x.tally(0, -1));
        });
        String since = "Since net(), of a STATION, what 0: FRAMES DELIVERED, 1: UNITS of these, 2: FRAMES LOST, 3: EXCHANGES begun, "
            + "4: those that FAILED, 5: SLOTS in which it SENT, 6: RANKS that met INSIDE";
        t.edge("Promise 19", since, "net() forgets them", () -> {
            SharedAir x = Edges.used();
            t.due("some was had", x.tally(0, 0) + x.tally(0, 6) > 1, true);
            Edges.net(x, "3ab2bc2ac1");
            for (int s = 0; s < 3; s++) {
                for (int what = 0; what <= 8; what++) {
                    t.due("tally(" + s + ", " + what + ")", x.tally(s, what), 0);
                }
            }
        });
        t.edge("Promise 19", since, "all of them", () -> {
            SharedAir x = Edges.made("3ab1bc1");
            x.sets(2, 1);
            x.offers(0, 0, 1, 5);
            x.offers(0, 1, 1, 1);
            x.slots(3);
            t.due("begun", x.tally(0, 3), 1);
            t.due("INSIDE", x.tally(0, 6), 1);
            t.due("LOST INSIDE", x.tally(0, 2), 1);
            t.due("FAILED: not INSIDE", x.tally(0, 4), 0);
            x.slots(7);
            t.due("DELIVERED", x.tally(0, 0), 1);
            t.due("UNITS", x.tally(0, 1), 5);
            t.due("a SENT ASK and DATA", x.tally(0, 5), 6);
            t.due("b SENT GRANT and ANSWER", x.tally(1, 5), 2);
            t.due("b began none", x.tally(1, 3), 0);
        });
        String took = "7: SLOTS that FRAMES DELIVERED took, together (of each from that which T was as it was offered up to that of "
            + "its ANSWER, both counted), 8: the most that one took.";
        t.edge("Promise 19", took, "the least that one can take", () -> {
            SharedAir x = Edges.made("2ab1");
            x.slots(9);
            x.offers(0, 0, 1, 1);
            x.slots(2);
            t.due("DELIVERED", x.tally(0, 0), 1);
            t.due("7", x.tally(0, 7), 2);
            t.due("8", x.tally(0, 8), 2);
        });
        t.edge("Promise 19", took, "from SLOT 0 to SLOT 3: 4", () -> {
            SharedAir x = Edges.made("2ab1");
            x.offers(0, 0, 1, 1);
            x.slots(4);
            t.due("7", x.tally(0, 7), 4);
            t.due("8", x.tally(0, 8), 4);
        });
        t.edge("Promise 19", took, "two together, offered in other SLOTS", () -> {
            SharedAir x = Edges.made("2ab1");
            x.offers(0, 0, 1, 1);
            x.slots(2);
            x.offers(0, 0, 1, 1);
            x.slots(3);
            t.due("both came", x.tally(0, 0), 2);
            t.due("5 and 3", x.tally(0, 7), 8);
            t.due("the most", x.tally(0, 8), 5);
        });
        t.edge("Promise 19", took, "less than the most so far", () -> {
            SharedAir x = Edges.made("2ab1");
            x.sets(7, 1);
            x.offers(0, 0, 1, 5);
            x.slots(10);
            t.due("the most", x.tally(0, 8), 10);
            x.slots(9);
            x.offers(0, 0, 1, 1);
            x.slots(9);
            t.due("both came", x.tally(0, 0), 2);
            t.due("the most stays", x.tally(0, 8), 10);
        });
        t.edge("Promise 19", took, "what is LOST took none", () -> {
            SharedAir x = Edges.made("3ab1bc1");
            x.sets(2, 1);
            x.offers(0, 0, 1, 1);
            x.offers(2, 0, 1, 1);
            x.slots(9);
            t.due("LOST", x.tally(0, 2), 1);
            t.due("7", x.tally(0, 7), 0);
            t.due("8", x.tally(0, 8), 0);
        });
    }

    private static void why() {
        String none = "-2: none FAILED since net(); NONE: no such STATION.";
        t.edge("Promise 20", none, "none FAILED", () -> {
            SharedAir x = Edges.made("2ab1");
            t.due("at first", x.why(0), -2);
            x.offers(0, 0, 1, 1);
            x.slots(4);
            t.due("one came", x.why(0), -2);
        });
        t.edge("Promise 20", none, "since net()", () -> {
            SharedAir x = bothFail(1);
            t.due("why(0)", x.why(0), 5);
            Edges.net(x, "3ab1bc1");
            t.due("behind net()", x.why(0), -2);
        });
        t.edge("Promise 20", none, "no such STATION", () -> {
            SharedAir x = Edges.made("2ab1");
            t.due("why(1)", x.why(1), -2);
            t.due("why(2)", x.why(2), -1);
            t.due("why(-1)", x.why(-1), -1);
            t.due("why(MAX)", x.why(Integer.MAX_VALUE), -1);
        });
        String why = "1 y was not CLEAR for x in ASK, 2 it was not FREE then, 3 its SPAN RAN then (the first of these), 4 x was not "
            + "CLEAR for y in GRANT, 5 no FRAME was WHOLE, 6 y was not FREE behind DATA, 7 x was not CLEAR for y in ANSWER; the "
            + "ROW: the SLOT in which it FAILED, y.";
        t.edge("Promise 20", why, "1", () -> {
            SharedAir x = bothFail(5);
            t.due("a", x.why(0), 1);
            t.dueRow(x, 3, 1);
            t.due("c", x.why(2), 1);
            t.dueRow(x, 3, 1);
        });
        t.edge("Promise 20", why, "1 ahead of 3", () -> {
            // b's SPAN RUNS from SLOT 3 on (by c's GRANT), and in SLOT 6 both a and e ASK it.
            SharedAir x = Edges.made("5ab1be1bc1cd1");
            x.offers(3, 0, 2, 9);
            x.slots(6);
            t.due("b's SPAN RUNS", x.spanOf(1), 3);
            x.offers(0, 0, 1, 5);
            x.offers(4, 0, 1, 5);
            x.slots(2);
            t.due("a", x.why(0), 1);
            t.due("e", x.why(4), 1);
        });
        t.edge("Promise 20", why, "3", () -> {
            SharedAir x = Edges.made("5ab1be1bc1cd1");
            x.offers(3, 0, 2, 9);
            x.slots(6);
            x.offers(0, 0, 1, 5);
            x.slots(1);
            t.due("not yet", x.why(0), -2);
            x.slots(1);
            t.due("a", x.why(0), 3);
            t.dueRow(x, 7, 1);
        });
        t.edge("Promise 20", why, "4", () -> {
            SharedAir x = twoAnswer(5);
            t.due("a", x.why(0), 4);
            t.dueRow(x, 4, 1);
        });
        t.edge("Promise 20", why, "5", () -> {
            SharedAir x = bothFail(1);
            t.due("a", x.why(0), 5);
            t.dueRow(x, 3, 1);
        });
        t.edge("Promise 20", why, "6", () -> {
            SharedAir x = Edges.made("3ab2ac2bc2");
            Edges.offerMany(x, 2, 0, 0, 1, 1);
            x.offers(1, 0, 2, 1);
            x.slots(5);
            t.due("a", x.why(0), 6);
            t.dueRow(x, 4, 1);
            t.due("b: none was WHOLE", x.why(1), 5);
            t.dueRow(x, 3, 2);
        });
        t.edge("Promise 20", why, "7", () -> {
            SharedAir x = twoAnswer(1);
            t.due("a", x.why(0), 7);
            t.dueRow(x, 4, 1);
            t.due("d's came", x.why(3), -2);
        });
        t.edge("Promise 20", why, "the latest one", () -> {
            SharedAir x = bothFail(5);
            t.due("the first one", x.why(0), 1);
            x.sets(0, 10);
            // Both DREW 6, and begin again in SLOT 11, without ASKING.
            x.slots(20);
            t.due("the second one", x.why(0), 5);
            t.dueRow(x, 16, 1);
        });
        t.edge("Promise 20", "Why the latest EXCHANGE of a STATION x that FAILED (with y; not INSIDE) did", "not INSIDE", () -> {
            SharedAir x = Edges.made("2ab1");
            x.offers(0, 0, 1, 1);
            x.offers(0, 1, 1, 1);
            x.slots(4);
            t.due("INSIDE", x.tally(0, 6), 1);
            t.due("why(0)", x.why(0), -2);
        });
    }

    /** a and c turn to b at once in SLOT 2, with so many PLACES (5: they ASK; 4 at most: they do not). */
    private static SharedAir bothFail(int units) {
        SharedAir x = Edges.made("3ab1bc1");
        x.offers(0, 0, 1, units);
        x.offers(2, 0, 1, units);
        x.slots(units < 5 ? units + 3 : 4);
        return x;
    }

    /** d's DATA for c in SLOTS 2 and 3, a's DATA or ASK for b in SLOT 3: a HEARS b and c at once in SLOT 4. T is 5. */
    private static SharedAir twoAnswer(int units) {
        SharedAir x = Edges.made("4ab2ac2cd2");
        Edges.offerMany(x, 2, 3, 0, 2, 1);
        x.offers(0, 2, 1, units);
        x.slots(5);
        return x;
    }

    private static void spoilt() {
        String none = "NONE: others, both are one.";
        t.edge("Promise 21", none, "both are one", () -> {
            SharedAir x = Edges.made("2ab1");
            t.due("spoilt(0, 0)", x.spoilt(0, 0), -1);
            t.due("spoilt(1, 1)", x.spoilt(1, 1), -1);
        });
        t.edge("Promise 21", none, "others", () -> {
            SharedAir x = Edges.made("2ab1");
            t.due("spoilt(0, 1)", x.spoilt(0, 1), 0);
            t.due("spoilt(0, 2)", x.spoilt(0, 2), -1);
            t.due("spoilt(2, 0)", x.spoilt(2, 0), -1);
            t.due("spoilt(-1, 0)", x.spoilt(-1, 0), -1);
            t.due("spoilt(0, -1)", x.spoilt(0, -1), -1);
            t.due("spoilt(6, 7)", x.spoilt(6, 7), -1);
        });
        String places = "PLACES of DATA of a STATION x since net() in which its y was not CLEAR for x while z SENT and y HEARD z: how "
            + "many; the ROW: PLACES of its DATA that went by since net().";
        t.edge("Promise 21", places, "none went by", () -> {
            SharedAir x = Edges.made("2ab1");
            t.due("spoilt(0, 1)", x.spoilt(0, 1), 0);
            t.dueRow(x, 0);
        });
        t.edge("Promise 21", places, "ASK is none", () -> {
            SharedAir x = Edges.made("2ab1");
            x.offers(0, 0, 1, 5);
            x.slots(4);
            x.spoilt(0, 1);
            t.dueRow(x, 0);
            x.slots(1);
            x.spoilt(0, 1);
            t.dueRow(x, 1);
            x.slots(9);
            x.spoilt(0, 1);
            t.dueRow(x, 5);
        });
        t.edge("Promise 21", places, "all of them, by the other one", () -> {
            SharedAir x = bothFail(4);
            t.due("spoilt(0, 2)", x.spoilt(0, 2), 4);
            t.dueRow(x, 4);
            t.due("spoilt(2, 0)", x.spoilt(2, 0), 4);
            t.due("y itself", x.spoilt(0, 1), 0);
        });
        t.edge("Promise 21", places, "z SENDS, but y does not HEAR z", () -> {
            SharedAir x = Edges.made("4ab1cd1");
            x.offers(0, 0, 1, 1);
            x.offers(2, 0, 3, 1);
            x.slots(4);
            t.due("spoilt(0, 2)", x.spoilt(0, 2), 0);
            t.dueRow(x, 1);
        });
        t.edge("Promise 21", places, "as y is not CLEAR: neither one unheard, nor one that is silent, nor y itself", () -> {
            SharedAir x = Edges.made("6ab1bc1de1bf1");
            x.offers(0, 0, 1, 1);
            x.offers(2, 0, 1, 1);
            x.offers(3, 0, 4, 1);
            x.slots(3);
            t.due("a, c, d SENT", x.sent(), 13);
            t.due("c", x.spoilt(0, 2), 1);
            t.due("d, unheard", x.spoilt(0, 3), 0);
            t.due("f, silent", x.spoilt(0, 5), 0);
            t.due("y itself", x.spoilt(0, 1), 0);
        });
        t.edge("Promise 21", places, "y SENDS itself and HEARS nobody else", () -> {
            SharedAir x = Edges.made("3ab1bc1");
            x.offers(0, 0, 1, 1);
            x.offers(1, 0, 2, 1);
            x.slots(3);
            t.due("a and b SENT", x.sent(), 3);
            t.due("b itself", x.spoilt(0, 1), 0);
            t.due("c", x.spoilt(0, 2), 0);
            t.dueRow(x, 1);
        });
        t.edge("Promise 21", places, "y HEARS z too, by ASK alone", () -> {
            SharedAir x = bothFail(5);
            t.due("spoilt(0, 2)", x.spoilt(0, 2), 0);
            t.dueRow(x, 0);
        });
        t.edge("Promise 21", places, "since net()", () -> {
            SharedAir x = bothFail(4);
            Edges.net(x, "3ab1bc1");
            t.due("spoilt(0, 2)", x.spoilt(0, 2), 0);
            t.dueRow(x, 0);
        });
    }

    private static void held() {
        t.edge("Promise 22", "NONE: no such STATION.", "3 and -1 of 3", () -> {
            SharedAir x = Edges.made("3ab1");
            t.due("held(2)", x.held(2), 0);
            t.due("held(3)", x.held(3), -1);
            t.due("held(-1)", x.held(-1), -1);
        });
        String held = "SLOTS since net() in which a STATION was FREE behind (a) and had FRAMES that wait: how many; the ROW: in how "
            + "many of these its SPAN RAN (as (a) began), in how many others it HEARD somebody SEND, in how many it did not.";
        t.edge("Promise 22", held, "without FRAMES", () -> {
            SharedAir x = Edges.made("2ab1");
            x.slots(9);
            t.due("held(0)", x.held(0), 0);
            t.dueRow(x, 0, 0, 0);
        });
        t.edge("Promise 22", held, "the SLOT in which it begins is none", () -> {
            SharedAir x = Edges.made("2ab1");
            x.offers(0, 0, 1, 9);
            x.slots(2);
            t.due("SLOTS 0 and 1", x.held(0), 2);
            t.dueRow(x, 0, 0, 2);
            x.slots(12);
            t.due("as it is a SENDER", x.held(0), 2);
        });
        t.edge("Promise 22", held, "a SLOT in which it owes is none", () -> {
            SharedAir x = Edges.made("2ab1");
            x.offers(0, 0, 1, 1);
            x.offers(1, 3, 0, 1);
            x.slots(3);
            t.due("SLOT 2: it HEARD a", x.held(1), 3);
            t.dueRow(x, 0, 1, 2);
            x.slots(1);
            t.due("SLOT 3: it owed an ANSWER", x.held(1), 3);
        });
        t.edge("Promise 22", held, "the SLOT in which its SPAN is told: it HEARD somebody", () -> {
            SharedAir x = Edges.made("3ab1ac1");
            x.offers(0, 0, 1, 1);
            x.offers(2, 3, 0, 1);
            x.slots(3);
            x.held(2);
            t.dueRow(x, 0, 1, 2);
            x.slots(1);
            x.held(2);
            t.dueRow(x, 1, 1, 2);
            x.slots(1);
            x.held(2);
            t.dueRow(x, 1, 1, 3);
        });
        t.edge("Promise 22", held, "its SPAN RUNS and it HEARS somebody: by its SPAN", () -> {
            SharedAir x = Edges.made("3ab1ac1bc1");
            x.offers(0, 0, 1, 5);
            x.offers(2, 3, 0, 1);
            x.slots(10);
            // SLOTS 0, 1 nothing, 2 the ASK, 3 .. 9 the SPAN, though GRANT, DATA and ANSWER are HEARD.
            t.due("held(2)", x.held(2), 10);
            t.dueRow(x, 7, 1, 2);
        });
        t.edge("Promise 22", held, "since net()", () -> {
            SharedAir x = Edges.made("2ab1");
            x.offers(0, 0, 1, 1);
            x.slots(2);
            t.due("2", x.held(0), 2);
            Edges.net(x, "2ab1");
            t.due("anew", x.held(0), 0);
            t.dueRow(x, 0, 0, 0);
        });
    }

    private static void even() {
        t.edge("Promise 23", "-2: nothing was DELIVERED.", "nothing, then something", () -> {
            SharedAir x = Edges.made("2ab1");
            t.due("nothing", x.even(), -2);
            x.offers(0, 0, 1, 1);
            x.slots(3);
            t.due("DATA alone", x.even(), -2);
            x.slots(1);
            t.due("its ANSWER", x.even(), 0);
            Edges.net(x, "2ab1");
            t.due("net()", x.even(), -2);
        });
        String part = "the square of UNITS DELIVERED of all, by STATIONS times the squares of UNITS of each added up, in lowest terms: "
            + "0; the ROW: upper, lower.";
        t.edge("Promise 23", part, "one of six alone", () -> {
            SharedAir x = Edges.made("6ab1");
            x.offers(0, 0, 1, 9);
            x.slots(14);
            t.due("even()", x.even(), 0);
            t.dueRow(x, 1, 6);
        });
        t.edge("Promise 23", part, "all alike: 1 of 1", () -> {
            SharedAir x = Edges.made("4ab1cd1");
            x.offers(0, 0, 1, 3);
            x.offers(2, 0, 3, 3);
            x.slots(6);
            x.offers(1, 0, 0, 3);
            x.offers(3, 0, 2, 3);
            x.slots(6);
            t.due("all four came", x.count(7), 4);
            t.due("even()", x.even(), 0);
            t.dueRow(x, 1, 1);
        });
        t.edge("Promise 23", part, "no lower terms", () -> {
            SharedAir x = Edges.made("2ab1");
            x.offers(0, 0, 1, 1);
            x.slots(6);
            x.offers(1, 0, 0, 2);
            x.slots(9);
            t.due("even()", x.even(), 0);
            // 9 by 2 times 5
            t.dueRow(x, 9, 10);
        });
    }

    private static void busy() {
        String sentence = "SLOTS since net() in which: just one STATION SENT; the ROW: none, more than one.";
        t.edge("Promise 24", sentence, "none went by", () -> {
            SharedAir x = Edges.made("2ab1");
            t.due("busy()", x.busy(), 0);
            t.dueRow(x, 0, 0);
        });
        t.edge("Promise 24", sentence, "one", () -> {
            SharedAir x = Edges.made("2ab1");
            x.offers(0, 0, 1, 1);
            x.slots(5);
            t.due("busy()", x.busy(), 2);
            t.dueRow(x, 3, 0);
        });
        t.edge("Promise 24", sentence, "two", () -> {
            SharedAir x = bothFail(4);
            t.due("busy()", x.busy(), 0);
            t.dueRow(x, 3, 4);
        });
        t.edge("Promise 24", sentence, "three", () -> {
            SharedAir x = Edges.made("6ab1cd1ef1");
            x.offers(0, 0, 1, 1);
            x.offers(2, 0, 3, 1);
            x.offers(4, 0, 5, 1);
            x.slots(4);
            t.due("busy()", x.busy(), 0);
            t.dueRow(x, 2, 2);
        });
        t.edge("Promise 24", sentence, "since net()", () -> {
            SharedAir x = bothFail(4);
            Edges.net(x, "1");
            t.due("busy()", x.busy(), 0);
            t.dueRow(x, 0, 0);
            x.slots(60);
            t.due("busy()", x.busy(), 0);
            t.dueRow(x, 60, 0);
        });
    }

    /** In how many of all ways one alone has the least, by trying each of them. */
    private static long aloneByTrying(int n, int w) {
        int[] drawn = new int[n];
        long ways = 0;
        boolean more = true;
        while (more) {
            int least = 100;
            int many = 0;
            for (int d : drawn) {
                many = d < least ? 1 : d == least ? many + 1 : many;
                least = Math.min(least, d);
            }
            ways += many == 1 ? 1 : 0;
            int i = 0;
            while (i < n && drawn[i] == w) {
                drawn[i] = 0;
                i++;
            }
            more = i < n;
            if (more) {
                drawn[i]++;
            }
        }
        return ways;
    }

    private static void odds() {
        String sentence = "Of n (1 .. 5) that DRAW of a WINDOW w (0 .. 31; each of w and 1 alike likely) that one alone has the least: "
            + "a part in lowest terms: 0; the ROW: upper, lower.";
        for (int n = 1; n <= 5; n++) {
            int many = n;
            t.edge("Promise 25", sentence, "n " + many + ", by trying all ways", () -> {
                int[] windows = {0, 1, 2, 3, 7, 15, 31};
                for (int w : windows) {
                    SharedAir x = new SharedAir();
                    t.due("odds(" + many + ", " + w + ")", x.odds(many, w), 0);
                    java.math.BigInteger upper = java.math.BigInteger.valueOf(aloneByTrying(many, w));
                    java.math.BigInteger lower = java.math.BigInteger.valueOf(w + 1).pow(many);
                    java.math.BigInteger both = upper.gcd(lower);
                    t.dueRow(x, upper.divide(both).longValue(), lower.divide(both).longValue());
                }
            });
        }
        t.edge("Promise 25", sentence, "WINDOW 0: one has it alone, more do not", () -> {
            SharedAir x = new SharedAir();
            x.odds(1, 0);
            t.dueRow(x, 1, 1);
            x.odds(2, 0);
            t.dueRow(x, 0, 1);
        });
        String none = "NONE: others.";
        int[][] others = {{0, 1}, {6, 1}, {-1, 1}, {1, -1}, {1, 32}, {5, 32}, {Integer.MIN_VALUE, 0}, {Integer.MAX_VALUE, 0},
            {1, Integer.MIN_VALUE}, {1, Integer.MAX_VALUE}};
        for (int[] it : others) {
            t.edge("Promise 25", none, it[0] + ", " + it[1], () -> t.due("odds", new SharedAir().odds(it[0], it[1]), -1));
        }
    }

    private static void window() {
        String sentence = "The least WINDOW (0 .. 31) by which odds(n, w) is v hundredths or more (v 0 .. 100): it. -2: none; NONE: others.";
        t.edge("Promise 26", sentence, "just v hundredths is enough", () -> {
            SharedAir x = new SharedAir();
            t.due("1 by 2 is 50", x.window(2, 50), 1);
            t.due("2 by 3 is less than 67", x.window(2, 67), 3);
            t.due("2 by 3 is more than 66", x.window(2, 66), 2);
            t.due("3 by 4 is 75", x.window(2, 75), 3);
            t.due("24 by 25 is 96", x.window(2, 96), 24);
        });
        t.edge("Promise 26", sentence, "0 hundredths", () -> {
            SharedAir x = new SharedAir();
            for (int n = 1; n <= 5; n++) {
                t.due("window(" + n + ", 0)", x.window(n, 0), 0);
            }
        });
        t.edge("Promise 26", sentence, "1 hundredth", () -> {
            SharedAir x = new SharedAir();
            t.due("window(1, 1)", x.window(1, 1), 0);
            t.due("window(2, 1)", x.window(2, 1), 1);
            t.due("window(5, 1)", x.window(5, 1), 1);
        });
        t.edge("Promise 26", sentence, "100 hundredths", () -> {
            SharedAir x = new SharedAir();
            t.due("window(1, 100)", x.window(1, 100), 0);
            t.due("window(2, 100)", x.window(2, 100), -2);
            t.due("window(5, 100)", x.window(5, 100), -2);
        });
        t.edge("Promise 26", sentence, "none, as WINDOW 31 is the last one", () -> {
            SharedAir x = new SharedAir();
            // odds(2, 31) is 31 by 32: 96.875 hundredths.
            t.due("window(2, 97)", x.window(2, 97), -2);
            // odds(3, 31) is 95.36, odds(3, 30) is 95.21, odds(3, 29) 95.05, odds(3, 28) 94.88.
            t.due("window(3, 95)", x.window(3, 95), 29);
            t.due("window(3, 96)", x.window(3, 96), -2);
        });
        t.edge("Promise 26", sentence, "each n and v", () -> {
            int last = -1;
            for (int n = 2; n <= 5; n++) {
                SharedAir x = new SharedAir();
                for (int v = 0; v <= 100; v++) {
                    int told = x.window(n, v);
                    last = Math.max(last, told);
                    int w = 0;
                    while (w <= 31 && 100 * aloneOf(n, w) < v * power(w + 1, n)) {
                        w++;
                    }
                    t.due("window(" + n + ", " + v + ")", told, w <= 31 ? w : -2);
                }
            }
            t.due("the greatest one that is told is 30", last, 30);
        });
        int[][] others = {{0, 50}, {6, 50}, {-1, 50}, {2, -1}, {2, 101}, {Integer.MAX_VALUE, 50}, {2, Integer.MAX_VALUE},
            {2, Integer.MIN_VALUE}};
        for (int[] it : others) {
            t.edge("Promise 26", sentence, "NONE " + it[0] + ", " + it[1], () ->
                t.due("window", new SharedAir().window(it[0], it[1]), -1));
        }
    }

    private static long aloneOf(int n, int w) {
        long ways = 0;
        for (int least = 0; least <= w; least++) {
            ways += n * power(w - least, n - 1);
        }
        return ways;
    }

    private static long power(int base, int times) {
        long product = 1;
        for (int i = 0; i < times; i++) {
            product *= base;
        }
        return product;
    }

    // ---- 27 .. 30: what would be

    private static void ahead() {
        String sentence = "n SLOTS (1 .. 60) on, nothing coming: what 0: FRAMES DELIVERED in them, 1: LOST, 2: EXCHANGES that FAIL, "
            + "3: FRAMES that wait then, 4: who SENDS in the last of them (bits). NONE: others.";
        t.edge("Promise 27", sentence, "1 and 60 SLOTS", () -> {
            SharedAir x = Edges.made("2ab1");
            x.slots(9);
            x.offers(0, 0, 1, 1);
            t.due("1: a SENDS", x.ahead(1, 4), 1);
            t.due("1: it waits", x.ahead(1, 3), 1);
            t.due("1: none came", x.ahead(1, 0), 0);
            t.due("2: b SENDS", x.ahead(2, 4), 2);
            t.due("2: it came", x.ahead(2, 0), 1);
            t.due("3: nobody SENDS", x.ahead(3, 4), 0);
            t.due("60: it came", x.ahead(60, 0), 1);
            t.due("60: none waits", x.ahead(60, 3), 0);
            t.due("T stays", x.count(1), 9);
        });
        t.edge("Promise 27", sentence, "in them, not ahead of them", () -> {
            SharedAir x = bothFail(4);
            x.sets(2, 1);
            t.due("one FAILED", x.tally(0, 4), 1);
            t.due("none in the next one", x.ahead(1, 2), 0);
            t.due("LOST", x.ahead(1, 1), 0);
            t.due("both again", x.ahead(30, 2), 2);
            t.due("both are LOST", x.ahead(30, 1), 2);
        });
        int[][] others = {{0, 0}, {61, 0}, {-1, 0}, {1, -1}, {1, 5}, {Integer.MAX_VALUE, 0}, {Integer.MIN_VALUE, 0},
            {1, Integer.MAX_VALUE}};
        for (int[] it : others) {
            t.edge("Promise 27", sentence, "NONE " + it[0] + ", " + it[1], () -> {
                SharedAir x = Edges.made("2ab1");
                t.due("ahead", x.ahead(it[0], it[1]), -1);
            });
        }
        t.edge("Promise 27", sentence, "LOST in them, as some were ahead of them", () -> {
            SharedAir x = someLost();
            t.due("LOST so far", lostOf(x), 2);
            t.due("none in 60 more", x.ahead(60, 1), 0);
            x.offers(0, 0, 1, 1);
            x.offers(2, 0, 1, 1);
            Edges.drawCounts(x, 0, 0);
            t.due("two more", x.ahead(60, 1), 2);
        });
        t.edge("Promise 27", sentence, "in each SLOT of a run", () -> {
            for (int k = 0; k < 40; k++) {
                SharedAir x = Edges.manyThings(k);
                int[] told = new int[5];
                for (int what = 0; what < 5; what++) {
                    told[what] = x.ahead(7, what);
                }
                t.due("DELIVERED", x.slots(7), told[0]);
                t.dueRow(x, told[1], told[2], Edges.of(() -> x.row(2)));
                t.due("wait", x.count(2), told[3]);
                t.due("who SENDS", x.sent(), told[4]);
            }
        });
        t.edge("Promise 27", sentence, "as slots() tells it", () -> {
            SharedAir x = Edges.used();
            int delivered = x.ahead(60, 0);
            int lost = x.ahead(60, 1);
            int failed = x.ahead(60, 2);
            int wait = x.ahead(60, 3);
            int who = x.ahead(60, 4);
            t.due("slots(60)", x.slots(60), delivered);
            t.due("LOST", Edges.of(() -> x.row(0)), lost);
            t.due("FAIL", Edges.of(() -> x.row(1)), failed);
            t.due("wait", x.count(2), wait);
            t.due("who SENDS", x.sent(), who);
        });
    }

    /** a and c turned to b at once, and both FRAMES were LOST. */
    private static SharedAir someLost() {
        SharedAir x = Edges.made("3ab1bc1");
        x.sets(2, 1);
        x.offers(0, 0, 1, 1);
        x.offers(2, 0, 1, 1);
        x.slots(9);
        return x;
    }

    private static int goesQuiet(SharedAir x) {
        for (int took = 0; took <= 300; took++) {
            if (x.count(2) == 0 && x.count(3) == 0) {
                return took;
            }
            x.slots(1);
        }
        return -1;
    }

    private static void quiet() {
        String sentence = "(T, ..; at most 99 SLOTS on) at the end of which all QUEUES are empty and no EXCHANGE goes on, nothing "
            + "coming: how many SLOTS that takes (0: so it is); the ROW: FRAMES DELIVERED till then. -2: not by then.";
        t.edge("Promise 28", sentence, "so it is", () -> {
            SharedAir x = Edges.made("2ab1");
            t.due("quiet()", x.quiet(), 0);
            t.dueRow(x, 0);
            x.offers(0, 0, 1, 1);
            x.slots(4);
            t.due("again", x.quiet(), 0);
            t.dueRow(x, 0);
        });
        t.edge("Promise 28", sentence, "1 SLOT", () -> {
            SharedAir x = Edges.made("2ab1");
            x.offers(0, 0, 1, 1);
            x.slots(3);
            t.due("its ANSWER", x.quiet(), 1);
            t.dueRow(x, 1);
        });
        t.edge("Promise 28", sentence, "FRAMES, not UNITS, and those till then alone", () -> {
            SharedAir x = Edges.made("2ab1");
            x.offers(0, 0, 1, 3);
            x.slots(6);
            x.offers(0, 0, 1, 3);
            x.offers(0, 0, 1, 4);
            t.due("quiet()", x.quiet() > 0, true);
            t.dueRow(x, 2);
        });
        t.edge("Promise 28", sentence, "what is LOST is not DELIVERED", () -> {
            SharedAir x = Edges.made("3ab1bc1");
            x.sets(2, 1);
            x.offers(0, 0, 1, 1);
            x.offers(2, 0, 1, 1);
            t.due("quiet()", x.quiet(), 4);
            t.dueRow(x, 0);
        });
        t.edge("Promise 28", sentence, "99 SLOTS, and 100", () -> {
            SharedAir x = lateQuiet();
            int takes = goesQuiet(lateQuiet());
            t.due("it takes more than 100", takes > 100, true);
            for (int i = 0; i < takes - 100; i++) {
                x.slots(1);
            }
            x.odds(3, 1);
            t.due("100", x.quiet(), -2);
            t.dueRow(x, 3, 8);
            x.slots(1);
            t.due("99", x.quiet(), 99);
            x.slots(1);
            t.due("98", x.quiet(), 98);
            t.due("so it goes", goesQuiet(x), 98);
        });
        t.edge("Promise 28", sentence, "a QUEUE that is never empty", () -> {
            SharedAir x = Edges.made("2ab1");
            for (int r = 0; r < 4; r++) {
                Edges.offerMany(x, 8, 0, r, 1, 9);
            }
            t.due("quiet()", x.quiet(), -2);
        });
    }

    private static SharedAir lateQuiet() {
        SharedAir x = new SharedAir();
        x.sets(1, 1);
        x.sets(7, 1);
        Edges.net(x, "2ab3");
        Edges.offerMany(x, 8, 0, 0, 1, 9);
        Edges.offerMany(x, 4, 0, 3, 1, 9);
        return x;
    }

    /** c's RANK 3 has that COUNT, and its STILL is above its WAIT: it begins in so many SLOTS. */
    private static SharedAir lateNext() {
        SharedAir x = new SharedAir();
        x.sets(0, 10);
        x.sets(1, 4);
        x.sets(11, 63);
        x.sets(10, 31);
        x.sets(6, 9);
        Edges.net(x, "3ab1bc1ac1");
        x.slots(9);
        x.offers(2, 0, 1, 1);
        x.offers(2, 3, 1, 1);
        // RANK 3 meets RANK 0 INSIDE: its WINDOW is 63.
        x.slots(2);
        Edges.offerMany(x, 4, 0, 0, 1, 9);
        x.slots(3);
        Edges.drawCounts(x, -1, 63);
        return x;
    }

    private static void next() {
        String sentence = "The next SLOT (at most 99 on) in which an EXCHANGE begins: how many SLOTS ahead of it (0: in the next one); "
            + "the ROW: who begins (bits). -2: none.";
        t.edge("Promise 29", sentence, "none", () -> {
            SharedAir x = Edges.made("2ab1");
            t.due("next()", x.next(), -2);
            t.dueRow(x);
        });
        t.edge("Promise 29", sentence, "0: in the next one", () -> {
            SharedAir x = Edges.made("2ab1");
            x.offers(0, 0, 1, 1);
            x.slots(1);
            t.due("one is ahead of it", x.next(), 1);
            x.slots(1);
            t.due("none", x.next(), 0);
            t.dueRow(x, 1);
            x.slots(1);
            t.due("it has begun", x.next(), -2);
        });
        t.edge("Promise 29", sentence, "an EXCHANGE that goes on does not begin", () -> {
            SharedAir x = Edges.made("2ab1");
            x.sets(1, 1);
            x.offers(0, 0, 1, 9);
            x.offers(0, 0, 1, 1);
            x.slots(3);
            // 11 more SLOTS of it; then STILL 2, and COUNT 2 goes down behind STILL 3.
            t.due("the second one", x.next(), 11 + 4);
        });
        t.edge("Promise 29", sentence, "99 on at most", () -> {
            SharedAir x = lateNext();
            t.due("COUNT", x.rank(2, 3, 1), 63);
            int ahead = begins(lateNext());
            t.due("it is late", ahead > 100, true);
            for (int i = 0; i < ahead - 100; i++) {
                x.slots(1);
            }
            x.odds(3, 1);
            t.due("100 are ahead of it", x.next(), -2);
            t.dueRow(x, 3, 8);
            x.slots(1);
            x.odds(3, 1);
            t.due("99 are", x.next(), -2);
            t.dueRow(x, 3, 8);
            x.slots(1);
            t.due("98 are", x.next(), 98);
            t.dueRow(x, 4);
        });
        t.edge("Promise 29", sentence, "who begins, all of them", () -> {
            SharedAir x = Edges.made("4ab1cd1");
            x.offers(0, 0, 1, 1);
            x.offers(3, 0, 2, 1);
            x.offers(2, 2, 3, 1);
            t.due("next()", x.next(), 2);
            t.dueRow(x, 9);
        });
    }

    /** How many SLOTS go by till c begins another EXCHANGE. */
    private static int begins(SharedAir x) {
        int begun = x.tally(2, 3);
        for (int i = 0; i < 300; i++) {
            x.slots(1);
            if (x.tally(2, 3) > begun) {
                return i;
            }
        }
        return -1;
    }

    private static void soonest() {
        String sentence = "By which of STATIONS that HEAR y (bits of who) one more FRAME of RANK 0, 1 UNIT, offered now, would be "
            + "DELIVERED soonest (at most 99 SLOTS on; its QUEUE not full): the STATION (of equally soon ones the least); the ROW: how "
            + "many SLOTS that takes. -2: none; NONE: no such y.";
        t.edge("Promise 30", sentence, "of equally soon ones the least", () -> {
            SharedAir x = Edges.made("4ad1bd1cd1");
            t.due("soonest(3)", x.soonest(3), 0);
            t.dueRow(x, 4);
        });
        t.edge("Promise 30", sentence, "a greater one that is sooner", () -> {
            SharedAir x = Edges.made("4ad1bd1cd1");
            x.offers(0, 0, 3, 1);
            x.offers(1, 0, 3, 1);
            x.draws();
            t.due("a's COUNT", x.rank(0, 0, 1), 2);
            t.due("soonest(3)", x.soonest(3), 2);
            t.dueRow(x, 4);
        });
        t.edge("Promise 30", sentence, "nobody HEARS y", () -> {
            SharedAir x = Edges.made("3ab1");
            t.due("soonest(2)", x.soonest(2), -2);
            t.dueRow(x);
        });
        t.edge("Promise 30", sentence, "its QUEUE not full", () -> {
            SharedAir x = Edges.made("3ac1bc1");
            Edges.offerMany(x, 8, 0, 0, 2, 1);
            t.due("a's is", x.soonest(2), 1);
            Edges.offerMany(x, 8, 1, 0, 2, 1);
            t.due("b's too", x.soonest(2), -2);
            t.due("other QUEUES do not matter", Edges.made("2ab1").soonest(1), 0);
        });
        t.edge("Promise 30", sentence, "another RANK's full QUEUE does not matter", () -> {
            SharedAir x = Edges.made("2ab1");
            Edges.offerMany(x, 8, 0, 1, 1, 1);
            t.due("soonest(1)", x.soonest(1), 0);
        });
        t.edge("Promise 30", sentence, "at most 99 SLOTS on", () -> {
            SharedAir x = lateSoonest();
            int takes = takesByOffer();
            t.due("it takes more than 100", takes > 100, true);
            for (int i = 0; i < takes - 100; i++) {
                x.slots(1);
            }
            x.odds(3, 1);
            t.due("100", x.soonest(1), -2);
            t.dueRow(x, 3, 8);
            x.slots(1);
            t.due("99", x.soonest(1), 0);
            t.dueRow(x, 99);
            x.slots(1);
            t.due("98", x.soonest(1), 0);
            t.dueRow(x, 98);
        });
        int[] others = {-1, 3, 6, Integer.MIN_VALUE, Integer.MAX_VALUE};
        for (int y : others) {
            t.edge("Promise 30", sentence, "NONE " + y, () -> t.due("soonest", Edges.made("3ab1bc1").soonest(y), -1));
        }
        t.edge("Promise 30", sentence, "1 UNIT, together with one that waits", () -> {
            SharedAir x = Edges.made("2ab1");
            x.offers(0, 0, 1, 1);
            t.due("soonest(1)", x.soonest(1), 0);
            // SLOTS 0 and 1, two PLACES, their ANSWER.
            t.dueRow(x, 5);
        });
        t.edge("Promise 30", sentence, "behind as many as go TOGETHER", () -> {
            SharedAir x = Edges.made("2ab1");
            x.offers(0, 0, 1, 1);
            x.offers(0, 0, 1, 1);
            t.due("soonest(1)", x.soonest(1), 0);
            // The first two take 5; then COUNT 2 goes down behind STILL 3 and 4, DATA, ANSWER.
            t.dueRow(x, 11);
        });
        t.edge("Promise 30", sentence, "the one offered, not another one", () -> {
            SharedAir x = Edges.made("3ab1ac1");
            x.offers(0, 0, 2, 1);
            t.due("soonest(1)", x.soonest(1), 0);
            t.due("it is not that for c", Edges.of(() -> x.row(0)) > 4, true);
        });
        t.edge("Promise 30", sentence, "in the midst of its own EXCHANGE", () -> {
            SharedAir x = Edges.made("2ab1");
            x.slots(9);
            x.offers(0, 0, 1, 4);
            x.slots(3);
            // One more PLACE and its ANSWER; STILL 1, 2, and 3 and 4 for COUNT 2; DATA and ANSWER.
            t.due("soonest(1)", x.soonest(1), 0);
            t.dueRow(x, 8);
            x.offers(0, 0, 1, 1);
            x.slots(7);
            t.due("not in 7", x.count(7), 1);
            x.slots(1);
            t.due("in 8", x.count(7), 2);
        });
        t.edge("Promise 30", sentence, "nothing is offered, nothing goes by", () -> {
            SharedAir x = Edges.made("2ab1");
            x.soonest(1);
            t.due("FRAMES", x.count(2), 0);
            t.due("T", x.count(1), 0);
            t.due("SEED", x.setting(12), 1);
        });
    }

    /** a has 7 FRAMES of nine PLACES, that go one by one. */
    private static SharedAir lateSoonest() {
        SharedAir x = new SharedAir();
        x.sets(1, 1);
        x.sets(7, 1);
        x.sets(3, 9);
        Edges.net(x, "2ab1");
        x.sets(2, 7);
        Edges.offerMany(x, 7, 0, 0, 1, 9);
        return x;
    }

    /** How many SLOTS one more FRAME of lateSoonest() takes, if nothing else comes. */
    private static int takesByOffer() {
        SharedAir x = lateSoonest();
        x.offers(0, 0, 1, 1);
        for (int took = 1; took <= 400; took++) {
            x.slots(1);
            if (x.count(7) == 8) {
                return took;
            }
        }
        return -1;
    }

    // ---- 31 .. 33: days

    private static void act(String edge, String text, int done, int stopped) {
        t.edge("Promise 31", "f, a letter a .. f (from), a digit 0 .. 3 (RANK), a letter a .. f (to), a digit 1 .. 9 (UNITS) (offers()), "
            + "s, two digits (slots()), d (draws())", edge + ": " + text, () -> {
                SharedAir x = Edges.made("6ab1ef1af1");
                t.due("day()", Edges.day(x, text), done);
                t.due("THE TEXT is empty", x.count(6), 0);
                if (done >= 0) {
                    t.due("one could not be", Edges.of(() -> x.row(0)), stopped);
                    t.due("ROW", x.count(5), 2);
                } else {
                    t.due("nothing is done", x.count(1) + x.count(2) + x.setting(12), 1);
                    t.due("nothing is kept of it", x.count(4), 1);
                    t.due("ROW", x.count(5), 0);
                }
            });
    }

    private static void dayActs() {
        act("from a to f, RANK 0, 1 UNIT", "fa0f1", 1, 0);
        act("from f to a, RANK 3, 9 UNITS", "ff3a9", 1, 0);
        act("from g", "fg0a1", -2, 0);
        act("from the sign below a", "f`0a1", -2, 0);
        act("RANK 4", "fa4b1", -3, 0);
        act("RANK below 0", "fa/b1", -3, 0);
        act("to g", "fa0g1", -4, 0);
        act("0 UNITS", "fa0b0", -5, 0);
        act("UNITS above 9", "fa0b:", -5, 0);
        act("s01", "s01", 1, 0);
        act("s60", "s60", 1, 0);
        act("s00: it can't be", "s00", 0, 1);
        act("s61: it can't be", "s61", 0, 1);
        act("s99: it can't be", "s99", 0, 1);
        act("no digit", "sa0", -2, 0);
        act("no second digit", "s0a", -3, 0);
        act("a sign below 0", "s0/", -3, 0);
        act("a sign above 9", "s:0", -2, 0);
        act("d", "d", 1, 0);
        act("both are one: it can't be", "fa0a1", 0, 1);
        act("not HEARD: it can't be", "fa0c1", 0, 1);
        act("a capital letter", "D", -1, 0);
        act("a sign between", "d d", -2, 0);
        act("the letter g", "g", -1, 0);
        t.edge("Promise 31", "s, two digits (slots())", "the first digit is ten times as much", () -> {
            SharedAir x = new SharedAir();
            t.due("day()", Edges.day(x, "s10s01"), 2);
            t.due("T", x.count(1), 11);
        });
        t.edge("Promise 31", "s, two digits (slots())", "digits 0 and 9", () -> {
            int[] many = {1, 9, 10, 19, 20, 29, 50, 59, 60};
            for (int n : many) {
                SharedAir x = new SharedAir();
                t.due("day()", Edges.day(x, n < 10 ? "s0" + n : "s" + n), 1);
                t.due("T", x.count(1), n);
            }
        });
        t.edge("Promise 31", "d (draws())", "all COUNTS are DRAWN", () -> {
            SharedAir x = Edges.made("2ab1");
            x.offers(0, 0, 1, 1);
            x.offers(1, 2, 0, 1);
            t.due("day()", Edges.day(x, "d"), 1);
            t.due("a's", x.rank(0, 0, 1), 16838 % 4);
            t.due("b's", x.rank(1, 2, 1), 38526 % 16);
        });
        String empty = "(an empty one: no ACTS)";
        t.edge("Promise 31", empty, "none", () -> {
            SharedAir x = Edges.made("2ab1");
            t.due("day()", x.day(), 0);
            t.dueRow(x, 0, 0);
            t.due("it is not kept", x.count(4), 1);
        });
    }

    private static void dayFaults() {
        String fault = "-1 - p: the sign at p can't stand there (its end, if it ends too early); nothing is done then.";
        String[] early = {"f", "fa", "fa0", "fa0b", "s", "s1", "df", "ds1", "s10fa0b"};
        for (String text : early) {
            t.edge("Promise 31", fault, "it ends too early: " + text, () -> {
                SharedAir x = Edges.made("2ab1");
                t.due("day()", Edges.day(x, text), -1 - text.length());
                t.due("T", x.count(1), 0);
                t.due("SEED", x.setting(12), 1);
                t.due("count(4)", x.count(4), 1);
            });
        }
        t.edge("Promise 31", fault, "behind ACTS that could be", () -> {
            SharedAir x = Edges.made("2ab1");
            t.due("day()", Edges.day(x, "fa0b1s10dx"), -10);
            t.due("FRAMES", x.count(2), 0);
            t.due("T", x.count(1), 0);
        });
        t.edge("Promise 31", fault, "behind one that could not be", () -> {
            SharedAir x = Edges.made("2ab1");
            t.due("day()", Edges.day(x, "s00x"), -4);
            t.dueRow(x);
        });
        t.edge("Promise 31", fault, "the last of 80 signs", () -> {
            SharedAir x = Edges.made("2ab1");
            t.due("no sign of an ACT", Edges.day(x, "d".repeat(79) + "x"), -80);
            t.due("its end", Edges.day(x, "d".repeat(79) + "s"), -81);
            t.due("its end, of an f", Edges.day(x, "d".repeat(76) + "fa0b"), -81);
            t.due("all of it", Edges.day(x, "d".repeat(75) + "fa0b1"), 76);
        });
        t.edge("Promise 31", fault, "signs that were cut do not matter", () -> {
            SharedAir x = Edges.made("2ab1");
            Edges.write(x, "s10s05");
            x.end(5);
            t.due("its end", x.day(), -6);
            Edges.write(x, "s10x");
            x.end(3);
            t.due("day()", x.day(), 1);
        });
    }

    private static void dayDone() {
        String done = "they are done one by one, till one can't be (it answers below 0): how many were done; the ROW: 1 if one could not "
            + "be, else 0, FRAMES DELIVERED by it.";
        t.edge("Promise 31", done, "all of them", () -> {
            SharedAir x = Edges.made("2ab1");
            t.due("day()", Edges.day(x, "fa0b1s04"), 2);
            t.dueRow(x, 0, 1);
        });
        t.edge("Promise 31", done, "FRAMES, not UNITS", () -> {
            SharedAir x = Edges.made("2ab1");
            t.due("day()", Edges.day(x, "fa0b3fb2a2s60"), 3);
            t.dueRow(x, 0, 2);
        });
        t.edge("Promise 31", done, "one SLOT less", () -> {
            SharedAir x = Edges.made("2ab1");
            t.due("day()", Edges.day(x, "fa0b1s03"), 2);
            t.dueRow(x, 0, 0);
            t.due("day()", Edges.day(x, "s01"), 1);
            t.dueRow(x, 0, 1);
        });
        t.edge("Promise 31", done, "the first one can't be", () -> {
            SharedAir x = Edges.made("2ab1");
            t.due("day()", Edges.day(x, "fa0a1s10"), 0);
            t.dueRow(x, 1, 0);
            t.due("T", x.count(1), 0);
            t.due("it is not kept", x.count(4), 1);
        });
        t.edge("Promise 31", done, "the last one can't be", () -> {
            SharedAir x = Edges.made("2ab1");
            t.due("day()", Edges.day(x, "fa0b1s04s00"), 2);
            t.dueRow(x, 1, 1);
            t.due("T", x.count(1), 4);
        });
        t.edge("Promise 31", done, "none behind it is done", () -> {
            SharedAir x = Edges.made("2ab1");
            t.due("day()", Edges.day(x, "s05s61s05d"), 1);
            t.dueRow(x, 1, 0);
            t.due("T", x.count(1), 5);
        });
        t.edge("Promise 31", done, "a full QUEUE", () -> {
            SharedAir x = Edges.made("2ab1");
            t.due("day()", Edges.day(x, "fa0b1".repeat(9)), 8);
            t.dueRow(x, 1, 0);
            t.due("FRAMES", x.count(2), 8);
        });
        t.edge("Promise 31", done, "draws() that answers 0 is done", () -> {
            SharedAir x = new SharedAir();
            t.due("day()", Edges.day(x, "d".repeat(80)), 80);
            t.dueRow(x, 0, 0);
        });
        t.edge("Promise 31", done, "by it alone", () -> {
            SharedAir x = Edges.made("2ab1");
            x.offers(0, 0, 1, 3);
            x.slots(6);
            t.due("one came ahead of it", x.count(7), 1);
            t.due("day()", Edges.day(x, "s60"), 1);
            t.dueRow(x, 0, 0);
        });
    }

    private static void undo() {
        String sentence = "(of 6 that are kept, the latest ones; such as were done; day() of which one ACT was done, as one)";
        t.edge("Promise 32", sentence, "6 of 7", () -> {
            SharedAir x = new SharedAir();
            for (int n = 1; n <= 7; n++) {
                x.slots(n);
                t.due("count(4)", x.count(4), Math.min(6, n));
            }
            for (int left = 5; left >= 0; left--) {
                t.due("undo()", x.undo(), left);
            }
            t.due("T behind slots(1)", x.count(1), 1);
            t.due("no more", x.undo(), -1);
            t.due("T", x.count(1), 1);
        });
        t.edge("Promise 32", sentence, "16 and more: the latest ones", () -> {
            SharedAir x = new SharedAir();
            for (int n = 1; n <= 16; n++) {
                x.slots(1);
            }
            for (int left = 5; left >= 0; left--) {
                t.due("undo()", x.undo(), left);
                t.due("T", x.count(1), 10 + left);
            }
            t.due("no more", x.undo(), -1);
        });
        t.edge("Promise 32", sentence, "undone, done, undone", () -> {
            SharedAir x = new SharedAir();
            for (int n = 1; n <= 6; n++) {
                x.slots(1);
            }
            for (int i = 0; i < 20; i++) {
                t.due("undo()", x.undo(), 5);
                x.slots(1);
                t.due("count(4)", x.count(4), 6);
            }
            t.due("T", x.count(1), 6);
        });
        t.edge("Promise 32", sentence, "each of them: net()", () -> {
            SharedAir x = Edges.made("3ab1bc1");
            x.offers(0, 0, 1, 9);
            x.slots(5);
            Edges.net(x, "6");
            t.due("undo()", x.undo(), 3);
            t.due("STATIONS", x.count(0), 3);
            t.due("T", x.count(1), 5);
            t.due("the EXCHANGE", x.exchange(0, 5), 8);
        });
        t.edge("Promise 32", sentence, "each of them: sets()", () -> {
            SharedAir x = new SharedAir();
            x.sets(0, 9);
            x.sets(12, 5);
            t.due("undo()", x.undo(), 1);
            t.due("SEED", x.setting(12), 1);
            t.due("undo()", x.undo(), 0);
            t.due("ASKING", x.setting(0), 5);
        });
        t.edge("Promise 32", sentence, "each of them: offers(), slots(), draws()", () -> {
            SharedAir x = Edges.made("2ab1");
            x.offers(0, 0, 1, 1);
            x.draws();
            x.slots(9);
            t.due("slots()", x.undo(), 3);
            t.due("T", x.count(1), 0);
            t.due("COUNT", x.rank(0, 0, 1), 2);
            t.due("draws()", x.undo(), 2);
            t.due("COUNT", x.rank(0, 0, 1), 0);
            t.due("SEED", x.setting(12), 1);
            t.due("offers()", x.undo(), 1);
            t.due("FRAMES", x.count(2), 0);
        });
        t.edge("Promise 32", sentence, "such as were done", () -> {
            SharedAir x = Edges.made("3ab1");
            Edges.net(x, "7");
            x.sets(0, 5);
            x.sets(0, 11);
            x.sets(13, 1);
            x.offers(0, 0, 0, 1);
            x.offers(0, 0, 2, 1);
            x.slots(0);
            x.slots(61);
            Edges.day(x, "x");
            Edges.day(x, "s00");
            Edges.day(x, "");
            x.sheet(0, 2, 3, 1, 0);
            x.years(1, 3);
            x.keep(0);
            t.due("net() alone", x.count(4), 1);
            t.due("undo()", x.undo(), 0);
            t.due("STATIONS", x.count(0), 0);
        });
        String ahead = "is undone (all that 1. tells of is as ahead of it, with what was had): how many are left that can be. Refused: none.";
        t.edge("Promise 32", ahead, "none", () -> t.due("undo()", new SharedAir().undo(), -1));
        t.edge("Promise 32", ahead, "with what was had", () -> {
            SharedAir x = Edges.used();
            SharedAir y = Edges.used();
            x.slots(60);
            t.due("undo()", x.undo() >= 0, true);
            t.due("all as ahead of it", Edges.sameButForUndo(x, y), true);
        });
        undoneInTheMidst(ahead, "net()", x -> Edges.net(x, "6"));
        undoneInTheMidst(ahead, "offers()", x -> x.offers(0, 1, 1, 7));
        undoneInTheMidst(ahead, "slots()", x -> x.slots(60));
        undoneInTheMidst(ahead, "draws()", x -> x.draws());
        undoneInTheMidst(ahead, "day()", x -> Edges.day(x, "fb1a3ds33s61"));
        undoneInTheMidst(ahead, "sets() of SEED", x -> x.sets(12, 99));
        for (int what = 0; what < 12; what++) {
            int it = what;
            undoneInTheMidst(ahead, "sets() of " + it, x -> x.sets(it, x.setting(it) == 1 ? 2 : 1));
        }
        t.edge("Promise 32", ahead, "in each SLOT of a run", () -> {
            for (int k = 1; k < 40; k++) {
                SharedAir x = Edges.manyThings(k);
                x.slots(11);
                x.undo();
                t.due("as ahead of it, in SLOT " + k, Edges.sameButForUndo(x, Edges.manyThings(k)), true);
                SharedAir y = Edges.manyThings(k);
                Edges.net(y, "4ab3bc3cd3");
                Edges.offerMany(y, 4, 0, 0, 1, 3);
                y.slots(4);
                y.undo();
                for (int i = 0; i < 5; i++) {
                    y.undo();
                }
                Edges.goOn(y, 12);
                t.due("and it goes on so, from SLOT " + k, Edges.sameButForUndo(y, Edges.manyThings(k + 12)), true);
            }
        });
        t.edge("Promise 32", ahead, "THE TEXT and the ROW stay", () -> {
            SharedAir x = Edges.made("2ab1");
            x.sign(1);
            x.slots(1);
            x.odds(3, 1);
            x.undo();
            t.due("signs", x.count(6), 4);
            t.dueRow(x, 3, 8);
        });
        t.edge("Promise 32", "(again() forgets them, if it is not refused.)", "refused, and not", () -> {
            SharedAir x = Edges.made("2ab1");
            x.slots(1);
            x.again(0);
            t.due("refused", x.count(4), 2);
            x.keep(0);
            t.due("keep() does not", x.count(4), 2);
            x.again(0);
            t.due("not refused", x.count(4), 0);
            t.due("undo()", x.undo(), -1);
            t.due("T", x.count(1), 1);
        });
    }

    private static void undoneInTheMidst(String sentence, String call, Edges.Act act) {
        t.edge("Promise 32", sentence, "of " + call + ", in the midst of an EXCHANGE", () -> {
            SharedAir x = Edges.manyThings(25);
            t.due("one goes on", x.count(3) > 0, true);
            act.on(x);
            x.undo();
            t.due("all as ahead of it", Edges.sameButForUndo(x, Edges.manyThings(25)), true);
        });
    }

    private static void undoOfDays() {
        String sentence = "day() of which one ACT was done, as one";
        t.edge("Promise 32", sentence, "many ACTS, one undo()", () -> {
            SharedAir x = Edges.made("2ab1");
            Edges.day(x, "fa0b1s10dfb3a9s05");
            t.due("count(4)", x.count(4), 2);
            t.due("undo()", x.undo(), 1);
            t.due("T", x.count(1), 0);
            t.due("FRAMES", x.count(2) + x.count(7), 0);
            t.due("SEED", x.setting(12), 1);
        });
        t.edge("Promise 32", sentence, "one ACT was done, the next one could not be", () -> {
            SharedAir x = Edges.made("2ab1");
            t.due("day()", Edges.day(x, "s05s00"), 1);
            t.due("count(4)", x.count(4), 2);
            t.due("undo()", x.undo(), 1);
            t.due("T", x.count(1), 0);
        });
        t.edge("Promise 32", sentence, "none was done", () -> {
            SharedAir x = Edges.made("2ab1");
            t.due("day()", Edges.day(x, "s00s05"), 0);
            t.due("count(4)", x.count(4), 1);
        });
        t.edge("Promise 32", sentence, "more than 6 ACTS push out none", () -> {
            SharedAir x = Edges.made("2ab1");
            x.slots(1);
            Edges.day(x, "d".repeat(9));
            t.due("count(4)", x.count(4), 3);
        });
    }

    private static void years() {
        String sentence = "n times (1 .. 40; it is forgotten)";
        t.edge("Promise 33", sentence, "1 and 40", () -> {
            SharedAir x = Edges.made("2ab1");
            // SEED 1 DRAWS 2 of 3, then 6 of 8: 7 SLOTS.
            t.due("years(1, 1)", x.years(1, 1), 0);
            t.dueRow(x, 0, 0, 7);
            x.years(1, 40);
            t.due("SLOTS", Edges.of(() -> x.row(2)), slotsOfYears(1, 40));
        });
        t.edge("Promise 33", sentence, "it is forgotten", () ->
            t.changesNoState(Edges::used, "years(9, 40)", x -> x.years(9, 40)));
        int[] others = {0, 41, -1, Integer.MIN_VALUE, Integer.MAX_VALUE};
        for (int n : others) {
            t.edge("Promise 33", "NONE: another n.", "n " + n, () -> {
                SharedAir x = Edges.made("2ab1");
                t.due("years", x.years(1, n), -1);
                t.dueRow(x);
            });
        }
        String draws = "a DRAW of 3 by a SEED of its own (seed): 0, 1: DRAWS of 6, 4, 6, 9: offers() (from, RANK, to, UNITS 1 more); 2: a "
            + "DRAW of 8: slots() of so many and 1 (what is refused is not done): FRAMES DELIVERED by it; the ROW: LOST, waiting then, "
            + "SLOTS that went by.";
        int[] seeds = {0, 1, -1, Integer.MIN_VALUE, Integer.MAX_VALUE};
        for (int seed : seeds) {
            t.edge("Promise 33", draws, "SEED " + seed, () -> {
                for (int n = 1; n <= 40; n += 13) {
                    SharedAir x = Edges.made("3ab1bc1ac1");
                    int came = x.years(seed, n);
                    String told = Edges.row(x);
                    SharedAir y = Edges.made("3ab1bc1ac1");
                    int delivered = doYears(y, seed, n);
                    t.due("DELIVERED", came, delivered);
                    String due = lostOf(y) + " " + y.count(2) + " " + y.count(1) + " ";
                    t.due("the ROW " + told + "is " + due, told.equals(due), true);
                }
            });
        }
        t.edge("Promise 33", draws, "its SEED is not the one of DRAWN COUNTS", () -> {
            SharedAir x = Edges.made("3ab1bc1ac1");
            x.sets(12, 12345);
            int came = x.years(7, 40);
            String told = Edges.row(x);
            SharedAir y = Edges.made("3ab1bc1ac1");
            y.sets(12, 12345);
            t.due("DELIVERED", came, doYears(y, 7, 40));
            t.due("the ROW", told.equals(lostOf(y) + " " + y.count(2) + " " + y.count(1) + " "), true);
        });
        t.edge("Promise 33", draws, "what was had ahead of it does not count", () -> {
            SharedAir x = Edges.used();
            int had = x.count(7);
            int lost = lostOf(x);
            int time = x.count(1);
            int came = x.years(3, 30);
            String told = Edges.row(x);
            SharedAir y = Edges.used();
            t.due("DELIVERED", came, doYears(y, 3, 30));
            t.due("of those since net()", y.count(7) - had, came);
            String due = (lostOf(y) - lost) + " " + y.count(2) + " " + (y.count(1) - time) + " ";
            t.due("the ROW " + told + "is " + due, told.equals(due), true);
        });
        t.edge("Promise 33", draws, "some are LOST by it", () -> {
            int lost = 0;
            for (int seed = 0; seed < 8; seed++) {
                SharedAir x = Edges.made("3ab1bc1");
                x.sets(2, 1);
                int came = x.years(seed, 40);
                String told = Edges.row(x);
                SharedAir y = Edges.made("3ab1bc1");
                y.sets(2, 1);
                t.due("DELIVERED", came, doYears(y, seed, 40));
                String due = lostOf(y) + " " + y.count(2) + " " + y.count(1) + " ";
                t.due("the ROW " + told + "is " + due, told.equals(due), true);
                lost += lostOf(y);
            }
            t.due("some were", lost > 0, true);
        });
        t.edge("Promise 33", draws, "what was LOST ahead of it does not count", () -> {
            SharedAir x = someLost();
            x.years(1, 1);
            t.dueRow(x, 0, 0, 7);
        });
        t.edge("Promise 33", draws, "of no STATIONS all offers() are refused", () -> {
            SharedAir x = new SharedAir();
            t.due("years", x.years(1, 40), 0);
            t.dueRow(x, 0, 0, slotsOfYears(1, 40));
        });
    }

    private static int lostOf(SharedAir x) {
        int lost = 0;
        for (int s = 0; s < x.count(0); s++) {
            lost += x.tally(s, 2);
        }
        return lost;
    }

    private static int drawOf(int seed, int n) {
        return (seed >>> 16) % n;
    }

    private static int slotsOfYears(int seed, int n) {
        int slots = 0;
        for (int i = 0; i < n; i++) {
            seed = seed * 1103515245 + 12345;
            if (drawOf(seed, 3) == 2) {
                seed = seed * 1103515245 + 12345;
                slots += drawOf(seed, 8) + 1;
            } else {
                for (int k = 0; k < 4; k++) {
                    seed = seed * 1103515245 + 12345;
                }
            }
        }
        return slots;
    }

    /** Does what years() only tells: FRAMES DELIVERED. */
    private static int doYears(SharedAir x, int seed, int n) {
        int delivered = 0;
        for (int i = 0; i < n; i++) {
            seed = seed * 1103515245 + 12345;
            if (drawOf(seed, 3) == 2) {
                seed = seed * 1103515245 + 12345;
                delivered += x.slots(drawOf(seed, 8) + 1);
            } else {
                int[] of = {6, 4, 6, 9};
                int[] drawn = new int[4];
                for (int k = 0; k < 4; k++) {
                    seed = seed * 1103515245 + 12345;
                    drawn[k] = drawOf(seed, of[k]);
                }
                x.offers(drawn[0], drawn[1], drawn[2], drawn[3] + 1);
            }
        }
        return delivered;
    }

    // ---- 34 .. 37: kept

    private static void keep() {
        String sentence = "is kept under a number 0 .. 1: true. Refused: others.";
        t.edge("Promise 34", sentence, "0 and 1", () -> {
            SharedAir x = new SharedAir();
            t.due("keep(0)", x.keep(0), true);
            t.due("keep(1)", x.keep(1), true);
        });
        int[] others = {-1, 2, Integer.MIN_VALUE, Integer.MAX_VALUE};
        for (int i : others) {
            t.edge("Promise 34", sentence, "others: " + i, () -> {
                SharedAir x = new SharedAir();
                t.due("keep", x.keep(i), false);
                t.due("again(0)", x.again(0), false);
                t.due("again(1)", x.again(1), false);
            });
        }
        t.edge("Promise 34", sentence, "a later one takes its place", () -> {
            SharedAir x = new SharedAir();
            x.keep(0);
            x.slots(3);
            x.keep(0);
            x.slots(3);
            x.again(0);
            t.due("T", x.count(1), 3);
        });
        t.edge("Promise 34", sentence, "each number has its own", () -> {
            SharedAir x = new SharedAir();
            x.slots(1);
            x.keep(0);
            x.slots(1);
            x.keep(1);
            x.slots(1);
            x.again(0);
            t.due("T of 0", x.count(1), 1);
            x.again(1);
            t.due("T of 1", x.count(1), 2);
        });
    }

    private static String spansOf(SharedAir x) {
        StringBuilder told = new StringBuilder();
        for (int s = 0; s < x.count(0); s++) {
            int by = x.spanOf(s);
            told.append(by).append(by < 0 ? "" : Edges.row(x)).append(',');
        }
        return told.toString();
    }

    /** f and e turn to a at once, without ASKING; a has RATE 2 and LUCK 1 to f. */
    private static SharedAir lastOnes() {
        SharedAir x = new SharedAir();
        x.sets(7, 1);
        Edges.net(x, "6af3ae3");
        for (int i = 0; i < 4; i++) {
            x.offers(0, 0, 5, 1);
            x.slots(9);
        }
        x.offers(5, 0, 0, 1);
        x.offers(4, 0, 0, 2);
        x.slots(3);
        return x;
    }

    private static void dueLastOnes(SharedAir x) {
        t.due("RATE of a to f", x.rate(0, 5), 2);
        t.dueRow(x, 1, 3);
        t.due("PLACES of e that f spoilt", x.spoilt(4, 5), 1);
        t.dueRow(x, 2);
        t.due("PLACES of f that e spoilt", x.spoilt(5, 4), 1);
        t.dueRow(x, 1);
        t.due("f HEARS", x.station(5, 5), 1);
    }

    private static void again() {
        t.edge("Promise 35", "Refused: nothing kept.", "nothing, under another number, another number", () -> {
            SharedAir x = new SharedAir();
            t.due("again(0)", x.again(0), false);
            x.keep(0);
            t.due("again(1)", x.again(1), false);
            t.due("again(2)", x.again(2), false);
            t.due("again(-1)", x.again(-1), false);
            t.due("again(MAX)", x.again(Integer.MAX_VALUE), false);
            t.due("again(0)", x.again(0), true);
        });
        String kept = "It is as it was kept under a number.";
        t.edge("Promise 35", kept, "once more, as often as one likes", () -> {
            SharedAir x = Edges.made("2ab1");
            x.offers(0, 0, 1, 1);
            x.keep(1);
            for (int i = 0; i < 3; i++) {
                t.due("it comes", x.slots(9), 1);
                t.due("again(1)", x.again(1), true);
                t.due("T", x.count(1), 0);
                t.due("FRAMES", x.count(2), 1);
            }
        });
        t.edge("Promise 35", kept, "all that can be asked", () -> {
            SharedAir x = Edges.used();
            x.keep(0);
            Edges.net(x, "1");
            x.sets(0, 1);
            x.again(0);
            SharedAir y = Edges.used();
            y.keep(0);
            y.again(0);
            t.due("all", Edges.all(x).equals(Edges.all(y)), true);
        });
        t.edge("Promise 35", kept, "in each SLOT of a run", () -> {
            for (int k = 1; k < 40; k++) {
                SharedAir x = Edges.manyThings(k);
                x.keep(1);
                Edges.net(x, "4ab3bc3cd3");
                Edges.offerMany(x, 4, 0, 0, 1, 3);
                Edges.offerMany(x, 2, 3, 0, 2, 9);
                x.slots(5);
                x.keep(0);
                x.again(1);
                SharedAir y = Edges.manyThings(k);
                t.due("SPANS", spansOf(x).equals(spansOf(y)), true);
                Edges.goOn(x, 12);
                t.due("it goes on so, from SLOT " + k, Edges.sameButForUndo(x, Edges.manyThings(k + 12)), true);
            }
        });
        t.edge("Promise 35", kept, "of the last STATIONS too", () -> {
            SharedAir x = lastOnes();
            dueLastOnes(x);
            x.keep(0);
            Edges.net(x, "6ab1");
            t.due("PLACES of e that f spoilt", x.spoilt(4, 5), 0);
            t.due("a and f", x.rate(0, 5), -2);
            x.again(0);
            dueLastOnes(x);
            Edges.net(x, "6af3ae3");
            t.due("PLACES of e that f spoilt", x.spoilt(4, 5), 0);
            t.due("RATE of a to f", x.rate(0, 5), 1);
            t.dueRow(x, 0, 3);
            x.undo();
            dueLastOnes(x);
        });
        t.edge("Promise 35", kept, "each SETTING", () -> {
            for (int what = 0; what <= 12; what++) {
                SharedAir x = new SharedAir();
                x.sets(what, 3);
                x.keep(0);
                x.sets(what, 1);
                x.again(0);
                t.due("SETTING " + what, x.setting(what), 3);
            }
        });
        t.edge("Promise 35", kept, "no STATIONS, as a new object is", () -> {
            SharedAir x = new SharedAir();
            x.keep(0);
            Edges.net(x, "6");
            x.sets(3, 9);
            x.again(0);
            t.due("STATIONS", x.count(0), 0);
            t.due("WAIT", x.setting(3), 2);
            t.dueThrow("station(0, 0)", () -> x.station(0, 0));
        });
        t.edge("Promise 35", kept, "THE TEXT and the ROW stay", () -> {
            SharedAir x = new SharedAir();
            x.keep(0);
            x.sign(1);
            x.odds(3, 1);
            x.again(0);
            t.due("signs", x.count(6), 4);
            t.dueRow(x, 3, 8);
        });
        t.edge("Promise 35", kept, "undo() does not touch what is kept", () -> {
            SharedAir x = new SharedAir();
            x.slots(5);
            x.keep(0);
            x.undo();
            x.again(0);
            t.due("T", x.count(1), 5);
        });
    }

    private static void count() {
        t.edge("Promise 36", "NONE for another what.", "8 and -1", () -> {
            SharedAir x = Edges.made("2ab1");
            t.due("count(7)", x.count(7), 0);
            t.due("count(8)", x.count(8), -1);
            t.due("count(-1)", x.count(-1), -1);
            t.due("count(MAX)", x.count(Integer.MAX_VALUE), -1);
            t.due("count(MIN)", x.count(Integer.MIN_VALUE), -1);
        });
        String told = "What 0: STATIONS, 1: T, 2: FRAMES that wait, 3: EXCHANGES that go on, 4: what can be undone, 5: numbers of the ROW, "
            + "6: signs of THE TEXT, 7: FRAMES DELIVERED since net().";
        t.edge("Promise 36", told, "the most of each", () -> {
            SharedAir x = Edges.made("6ab1cd1ef1");
            for (int s = 0; s < 6; s++) {
                for (int r = 0; r < 4; r++) {
                    Edges.offerMany(x, 8, s, r, s % 2 == 0 ? s + 1 : s - 1, 1);
                }
            }
            t.due("STATIONS", x.count(0), 6);
            t.due("FRAMES", x.count(2), 192);
            t.due("what can be undone", x.count(4), 6);
            x.slots(3);
            t.due("EXCHANGES", x.count(3), 6);
            t.due("ROW", x.count(5), 3);
            for (int i = 0; i < 20; i++) {
                x.sign(0);
            }
            t.due("signs", x.count(6), 80);
        });
        t.edge("Promise 36", told, "DELIVERED since net()", () -> {
            SharedAir x = Edges.made("2ab1");
            x.offers(0, 0, 1, 1);
            x.slots(4);
            t.due("one", x.count(7), 1);
            t.due("none waits", x.count(2), 0);
            t.due("none goes on", x.count(3), 0);
            Edges.net(x, "2ab1");
            t.due("anew", x.count(7), 0);
        });
        t.edge("Promise 36", told, "numbers of the ROW: 10 of hidden()", () -> {
            SharedAir x = Edges.made("6af1bf1cf1df1ef1");
            x.hidden();
            t.due("count(5)", x.count(5), 10);
        });
    }

    private static void row() {
        String sentence = "Number i of the ROW. NoSuchElementException: none such.";
        t.edge("Promise 37", sentence, "a new object's", () -> {
            SharedAir x = new SharedAir();
            t.dueThrow("row(0)", () -> x.row(0));
            t.dueThrow("row(-1)", () -> x.row(-1));
        });
        t.edge("Promise 37", sentence, "the first and the last of two", () -> {
            SharedAir x = new SharedAir();
            x.odds(3, 1);
            t.due("row(0)", Edges.of(() -> x.row(0)), 3);
            t.due("row(1)", Edges.of(() -> x.row(1)), 8);
            t.dueThrow("row(2)", () -> x.row(2));
            t.dueThrow("row(-1)", () -> x.row(-1));
            t.dueThrow("row(MAX)", () -> x.row(Integer.MAX_VALUE));
            t.dueThrow("row(MIN)", () -> x.row(Integer.MIN_VALUE));
        });
        t.edge("Promise 37", sentence, "the last of 10", () -> {
            SharedAir x = Edges.made("6af1bf1cf1df1ef1");
            x.hidden();
            t.due("row(9)", Edges.of(() -> x.row(9)), 22);
            t.dueThrow("row(10)", () -> x.row(10));
        });
        t.edge("Promise 37", sentence, "a shorter one's end", () -> {
            SharedAir x = Edges.made("2ab1");
            x.slots(1);
            x.quiet();
            t.due("row(0)", Edges.of(() -> x.row(0)), 0);
            t.dueThrow("row(1)", () -> x.row(1));
        });
    }
}
