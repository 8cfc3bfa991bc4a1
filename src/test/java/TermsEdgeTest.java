/** Each sentence of the document's Terms, 1 (but for the steps of a SLOT) and 2, that names a boundary case. */
public final class TermsEdgeTest {
    private static final Edges t = new Edges();
    private static final String STILL = "STILL of a STATION (at first 0): how many SLOTS one behind another, the latest "
        + "ones, it did not SEND, HEARD none that SENT, its SPAN did not RUN.";
    private static final String CLEAR = "It is CLEAR for x in a SLOT: it HEARS x, x SENDS, it does not SEND itself, and of "
        + "all others that it HEARS none SENDS.";
    private static final String FIRST_FRAMES = "of a RANK, the first FRAMES of its QUEUE, as many as are to y one behind "
        + "another, TOGETHER at most";
    private static final String PLACES = "of each PLACES: UNITS by RATE (from x to y), rounded up; D: PLACES of all.";
    private static final String ASKING = "If D is ASKING or more: ASK (one SLOT), GRANT (one); then DATA (D SLOTS), ANSWER (one).";
    private static final String FREE = "FREE: not the SENDER of an EXCHANGE, and owes no GRANT, no ANSWER.";
    private static final String GRANT = "if y SENDS it and x is CLEAR for y: DATA begins with the next SLOT; each STATION but x "
        + "that is CLEAR for y: its SPAN as in (c). Else the EXCHANGE FAILS.";
    private static final String DELIVERED = "if y SENDS it and x is CLEAR for y: WHOLE FRAMES are DELIVERED and leave the QUEUE, "
        + "each other one of the EXCHANGE was TRIED once more, and if that is TRIES often, it is LOST and leaves it; the WINDOW "
        + "is the LEAST one, COUNT is DRAWN";
    private static final String LUCK = "LUCK is 1 more, and if it is 3: RATE is 1 more (3 at most), LUCK 0. Else the EXCHANGE "
        + "FAILS. In both cases it is over.";
    private static final String REFUSED = "Refused calls answer NONE, or false, and change nothing but THE TEXT, which a call "
        + "that reads it empties.";
    private static final String NONE_FIRST = "NONE comes ahead of other answers below 0";
    private static final String ROW_STAYS = "the ROW stays with each answer that tells of a refusal or that there is none, and "
        + "with calls that do not tell of it.";

    public static void main(String[] args) {
        stations();
        settings();
        queues();
        draws();
        slotsAndClear();
        spans();
        still();
        exchanges();
        places();
        free();
        refused();
        rowStays();
        bits();
        manyCalls();
        t.finish("Terms", "What it is", "Terms 1", "Terms 2");
    }

    // ---- Terms 1: what there is

    private static void stations() {
        String sentence = "STATIONS a .. f (0 .. 5; at first none).";
        t.edge("Terms 1", sentence, "at first none", () -> {
            SharedAir x = new SharedAir();
            t.due("count(0)", x.count(0), 0);
            t.dueThrow("station(0, 0)", () -> x.station(0, 0));
        });
        t.edge("Terms 1", sentence, "f is 5, and the last one", () -> {
            SharedAir x = Edges.made("6af1");
            t.due("count(0)", x.count(0), 6);
            t.due("f HEARS a", x.station(5, 5), 1);
            t.dueThrow("station(6, 0)", () -> x.station(6, 0));
        });
        String quality = "Two of them HEAR each other, with a QUALITY 1 .. 3, or do not.";
        t.edge("Terms 1", quality, "1 is the least", () -> {
            SharedAir x = Edges.made("2ab1");
            x.rate(1, 0);
            t.dueRow(x, 0, 1);
            t.due("0 of it", Edges.net(x, "2ab0"), -4);
        });
        t.edge("Terms 1", quality, "3 is the most", () -> {
            SharedAir x = Edges.made("2ab3");
            x.rate(1, 0);
            t.dueRow(x, 0, 3);
            t.due("4 of it", Edges.net(x, "2ab4"), -4);
        });
        t.edge("Terms 1", quality, "they HEAR each other, both or none", () -> {
            SharedAir x = Edges.made("3ca2");
            t.due("a HEARS c", x.station(0, 5), 4);
            t.due("c HEARS a", x.station(2, 5), 1);
            t.due("b HEARS none", x.station(1, 5), 0);
        });
    }

    private static void settingLimits(String sentence, int from, int to, int most, int... atFirst) {
        for (int what = from; what <= to; what++) {
            int it = what;
            t.edge("Terms 1", sentence, "SETTING " + it + " at first", () ->
                t.due("setting", new SharedAir().setting(it), atFirst[it - from]));
            t.edge("Terms 1", sentence, "SETTING " + it + " at least 1", () -> {
                SharedAir x = new SharedAir();
                t.due("0", x.sets(it, 0), -1);
                t.due("it stays", x.setting(it), atFirst[it - from]);
                t.due("1", x.sets(it, 1), 100 + atFirst[it - from]);
                t.due("it is so", x.setting(it), 1);
            });
            t.edge("Terms 1", sentence, "SETTING " + it + " at most " + most, () -> {
                SharedAir x = new SharedAir();
                t.due("1 more", x.sets(it, most + 1), -1);
                t.due("it stays", x.setting(it), atFirst[it - from]);
                t.due("the most", x.sets(it, most), 100 + atFirst[it - from]);
                t.due("it is so", x.setting(it), most);
            });
        }
    }

    private static void settings() {
        settingLimits("0 ASKING, 1 .. 10 (5)", 0, 0, 10, 5);
        settingLimits("1 TOGETHER, 1 .. 4 (2)", 1, 1, 4, 2);
        settingLimits("2 TRIES, 1 .. 7 (4)", 2, 2, 7, 4);
        settingLimits("3 .. 6 of RANK 0 .. 3 its WAIT, 1 .. 9 (2, 2, 3, 6)", 3, 6, 9, 2, 2, 3, 6);
        settingLimits("7 .. 10 its LEAST WINDOW, 1 .. 31 (3, 7, 15, 15)", 7, 10, 31, 3, 7, 15, 15);
        settingLimits("11 GREATEST WINDOW, 1 .. 63 (31)", 11, 11, 63, 31);
        t.edge("Terms 1", "12 SEED, any (1).", "at first", () -> t.due("setting(12)", new SharedAir().setting(12), 1));
        int[] any = {0, -1, Integer.MIN_VALUE, Integer.MAX_VALUE};
        for (int seed : any) {
            t.edge("Terms 1", "12 SEED, any (1).", "SEED " + seed, () -> {
                SharedAir x = new SharedAir();
                t.due("sets(12, seed)", x.sets(12, seed), 100);
                t.due("setting(12)", x.setting(12), seed);
            });
        }
        t.edge("Terms 1", "3 .. 6 of RANK 0 .. 3 its WAIT, 1 .. 9 (2, 2, 3, 6)", "each of its own RANK", () -> {
            for (int rank = 0; rank < 4; rank++) {
                SharedAir x = Edges.made("2ab1");
                x.sets(3 + rank, 9);
                x.offers(0, rank, 1, 1);
                t.due("RANK " + rank, x.next(), 9);
            }
        });
        t.edge("Terms 1", "7 .. 10 its LEAST WINDOW, 1 .. 31 (3, 7, 15, 15)", "each of its own RANK", () -> {
            for (int rank = 0; rank < 4; rank++) {
                SharedAir x = new SharedAir();
                x.sets(7 + rank, 29);
                Edges.net(x, "2ab1");
                for (int r = 0; r < 4; r++) {
                    int due = r == rank ? 29 : new int[] {3, 7, 15, 15}[r];
                    t.due("SETTING " + (7 + rank) + ", RANK " + r, x.rank(1, r, 2), due);
                }
            }
        });
    }

    private static void queues() {
        String queue = "Each STATION has for each RANK a QUEUE of FRAMES (8 at most)";
        t.edge("Terms 1", queue, "8 stand, a ninth does not", () -> {
            SharedAir x = Edges.made("2ab1");
            Edges.offerMany(x, 7, 0, 0, 1, 1);
            t.due("the eighth", x.offers(0, 0, 1, 1), 8);
            t.due("the ninth", x.offers(0, 0, 1, 1), -2);
            t.due("FRAMES", x.rank(0, 0, 0), 8);
        });
        t.edge("Terms 1", queue, "for each RANK and each STATION one of its own", () -> {
            SharedAir x = Edges.made("2ab1");
            Edges.offerMany(x, 8, 0, 0, 1, 1);
            t.due("RANK 1", x.offers(0, 1, 1, 1), 1);
            t.due("RANK 3", x.offers(0, 3, 1, 1), 1);
            t.due("b's RANK 0", x.offers(1, 0, 0, 1), 1);
        });
        t.edge("Terms 1", queue, "32 of a STATION, 192 of all", () -> {
            SharedAir x = Edges.made("6ab1cd1ef1");
            for (int s = 0; s < 6; s++) {
                for (int r = 0; r < 4; r++) {
                    Edges.offerMany(x, 8, s, r, s % 2 == 0 ? s + 1 : s - 1, 1);
                }
            }
            t.due("f's", x.station(5, 6), 32);
            t.due("all", x.count(2), 192);
        });
        t.edge("Terms 1", "to whom, UNITS (1 .. 9), how often it was TRIED", "UNITS 1 and 9", () -> {
            SharedAir x = Edges.made("2ab1");
            t.due("0", x.offers(0, 0, 1, 0), -1);
            t.due("1", x.offers(0, 0, 1, 1), 1);
            t.due("9", x.offers(0, 0, 1, 9), 2);
            t.due("10", x.offers(0, 0, 1, 10), -1);
            t.due("the first one's", x.frame(0, 0, 0, 1), 1);
            t.due("the other one's", x.frame(0, 0, 1, 1), 9);
            t.due("TRIED", x.frame(0, 0, 1, 2), 0);
        });
        t.edge("Terms 1", "to whom, UNITS (1 .. 9), how often it was TRIED", "a new one never, where another one stood", () -> {
            SharedAir x = Edges.made("3ab1bc1");
            x.sets(2, 2);
            x.offers(0, 0, 1, 1);
            x.offers(2, 0, 1, 1);
            x.slots(4);
            t.due("TRIED", x.frame(0, 0, 0, 2), 1);
            x.sets(2, 1);
            x.slots(60);
            t.due("none waits", x.count(2), 0);
            x.offers(0, 0, 1, 1);
            x.offers(2, 0, 1, 1);
            t.due("a's", x.frame(0, 0, 0, 2), 0);
            t.due("c's", x.frame(2, 0, 0, 2), 0);
        });
        String window = "a WINDOW (at first the LEAST) and a COUNT (at first 0).";
        t.edge("Terms 1", window, "WINDOWS at first", () -> {
            SharedAir x = Edges.made("6");
            for (int s = 0; s < 6; s++) {
                t.due("RANK 0", x.rank(s, 0, 2), 3);
                t.due("RANK 1", x.rank(s, 1, 2), 7);
                t.due("RANK 2", x.rank(s, 2, 2), 15);
                t.due("RANK 3", x.rank(s, 3, 2), 15);
            }
        });
        t.edge("Terms 1", window, "the LEAST, though the GREATEST is less", () -> {
            SharedAir x = new SharedAir();
            x.sets(7, 31);
            x.sets(11, 1);
            Edges.net(x, "1");
            t.due("WINDOW", x.rank(0, 0, 2), 31);
        });
        t.edge("Terms 1", window, "COUNTS at first", () -> {
            SharedAir x = Edges.made("6");
            for (int s = 0; s < 6; s++) {
                for (int r = 0; r < 4; r++) {
                    t.due("COUNT", x.rank(s, r, 1), 0);
                }
            }
        });
        String rate = "RATE from a STATION to another one: 1 .. 3 (1 at first), and its LUCK (0).";
        t.edge("Terms 1", rate, "at first", () -> {
            SharedAir x = Edges.made("6af2");
            t.due("a to f", x.rate(0, 5), 1);
            t.dueRow(x, 0, 2);
            t.due("f to a", x.rate(5, 0), 1);
            t.dueRow(x, 0, 2);
        });
        t.edge("Terms 1", rate, "each way its own", () -> {
            SharedAir x = Edges.atRate(2, "2ab3");
            t.due("a to b", x.rate(0, 1), 2);
            t.due("b to a", x.rate(1, 0), 1);
        });
        t.edge("Terms 1", rate, "to each other one its own", () -> {
            SharedAir x = Edges.atRate(2, "3ab3ac3");
            t.due("a to b", x.rate(0, 1), 2);
            t.due("a to c", x.rate(0, 2), 1);
        });
        t.edge("Terms 1", rate, "3 is the most", () -> {
            SharedAir x = Edges.atRate(3, "2ab3");
            t.due("a to b", x.rate(0, 1), 3);
        });
    }

    private static void draws() {
        String draw = "A DRAW of n: SEED = SEED times 1103515245 + 12345 (as ints), (SEED without sign, by 65536) % n.";
        t.edge("Terms 1", draw, "SEED goes round as an int", () -> {
            SharedAir x = Edges.made("2ab1");
            x.offers(0, 0, 1, 1);
            x.draws();
            t.due("of 1", x.setting(12), 1103527590);
            x.draws();
            t.due("of 1103527590", x.setting(12), 2524885223L - 4294967296L);
        });
        t.edge("Terms 1", draw, "a SEED below 0 counts without sign", () -> {
            SharedAir x = Edges.made("2ab1");
            x.sets(12, 1103527590);
            x.offers(0, 2, 1, 1);
            x.draws();
            // 2524885223 by 65536 is 38526; 38526 % 16 is 14.
            t.due("COUNT", x.rank(0, 2, 1), 14);
        });
        t.edge("Terms 1", draw, "the greatest and the least SEED", () -> {
            int[] seeds = {Integer.MAX_VALUE, Integer.MIN_VALUE, -1, 0};
            for (int seed : seeds) {
                SharedAir x = Edges.made("2ab1");
                x.sets(12, seed);
                x.offers(0, 1, 1, 1);
                x.draws();
                java.math.BigInteger due = java.math.BigInteger.valueOf(seed).multiply(java.math.BigInteger.valueOf(1103515245))
                    .add(java.math.BigInteger.valueOf(12345)).mod(java.math.BigInteger.ONE.shiftLeft(32));
                t.due("SEED behind " + seed, x.setting(12) & 0xffffffffL, due.longValue());
                t.due("COUNT", x.rank(0, 1, 1), due.longValue() / 65536 % 8);
            }
        });
        t.edge("Terms 1", "DRAWN COUNT of a RANK: a DRAW of its WINDOW and 1.", "from 0 to the WINDOW itself", () -> {
            int[] windows = {1, 3, 16, 31};
            for (int window : windows) {
                for (int count = 0; count <= window; count++) {
                    SharedAir x = new SharedAir();
                    x.sets(7, window);
                    Edges.net(x, "2ab1");
                    x.offers(0, 0, 1, 1);
                    x.sets(12, Edges.seedFor(new int[] {window}, count));
                    x.draws();
                    t.due("COUNT of WINDOW " + window, x.rank(0, 0, 1), count);
                }
            }
        });
    }

    // ---- Terms 1: SLOTS, CLEAR, SPAN, STILL

    private static void slotsAndClear() {
        t.edge("Terms 1", "SLOTS 0, 1, .. (T is the next one).", "the first one is 0", () -> {
            SharedAir x = Edges.made("2ab1");
            t.due("T", x.count(1), 0);
            x.offers(0, 0, 1, 1);
            t.due("offered in", x.frame(0, 0, 0, 3), 0);
            x.slots(1);
            t.due("T", x.count(1), 1);
        });
        t.edge("Terms 1", CLEAR, "nobody SENDS", () -> {
            SharedAir x = Edges.made("2ab1");
            x.slots(1);
            x.sent();
            t.dueRow(x, 0, 0);
        });
        t.edge("Terms 1", CLEAR, "who does not HEAR x is not", () -> {
            SharedAir x = Edges.made("3ab1");
            x.offers(0, 0, 1, 1);
            x.slots(3);
            t.due("a SENDS", x.sent(), 1);
            t.dueRow(x, 2, 0);
        });
        t.edge("Terms 1", CLEAR, "who SENDS itself is not", () -> {
            SharedAir x = Edges.made("2ab1");
            x.offers(0, 0, 1, 1);
            x.offers(1, 0, 0, 1);
            x.slots(3);
            t.due("both SEND", x.sent(), 3);
            t.dueRow(x, 0, 0);
        });
        t.edge("Terms 1", CLEAR, "who HEARS another one that SENDS is not", () -> {
            SharedAir x = Edges.made("3ab1bc1");
            x.offers(0, 0, 1, 1);
            x.offers(2, 0, 1, 1);
            x.slots(3);
            t.due("a and c SEND", x.sent(), 5);
            t.dueRow(x, 0, 0);
        });
        t.edge("Terms 1", CLEAR, "others that SEND unheard do not matter", () -> {
            SharedAir x = Edges.made("4ab1cd1");
            x.offers(0, 0, 1, 1);
            x.offers(2, 0, 3, 1);
            x.slots(3);
            t.due("a and c SEND", x.sent(), 5);
            t.dueRow(x, 10, 0);
            t.due("both come", x.slots(1), 2);
        });
    }

    private static void spans() {
        String span = "Its SPAN (at first 0): RUNS in SLOTS below it.";
        t.edge("Terms 1", span, "at first 0", () -> {
            SharedAir x = Edges.made("2ab1");
            t.due("station(1, 1)", x.station(1, 1), 0);
            t.due("spanOf(1)", x.spanOf(1), -2);
            x.slots(1);
            x.sent();
            t.dueRow(x, 0, 0);
        });
        t.edge("Terms 1", span, "it RUNS in the SLOT ahead of it, not in that which it tells", () -> {
            SharedAir x = Edges.asking("3ab1bc1ac1", 5);
            x.slots(9);
            t.due("c's SPAN", x.station(2, 1), 10);
            t.due("it RUNS in SLOT 9", x.spanOf(2), 0);
            x.slots(1);
            x.sent();
            t.dueRow(x, 5, 4);
            t.due("it does not in SLOT 10", x.spanOf(2), -2);
            x.slots(1);
            x.sent();
            t.dueRow(x, 0, 0);
        });
        String end = "Its SPAN ends: behind its ANSWER.";
        t.edge("Terms 1", end, "of the least D that ASKS", () -> {
            SharedAir x = new SharedAir();
            x.sets(0, 1);
            Edges.net(x, "3ab1ac1");
            x.offers(0, 0, 1, 1);
            x.slots(3);
            // ASK in SLOT 2, GRANT 3, DATA 4, ANSWER 5.
            t.due("c's SPAN", x.station(2, 1), 6);
            x.slots(3);
            t.due("it is over with it", x.count(3), 0);
            t.due("T", x.count(1), 6);
        });
        t.edge("Terms 1", end, "of 36 PLACES", () -> {
            SharedAir x = new SharedAir();
            x.sets(1, 4);
            Edges.net(x, "3ab1ac1");
            Edges.offerMany(x, 4, 0, 0, 1, 9);
            x.slots(3);
            t.due("c's SPAN", x.station(2, 1), 41);
            t.due("not yet", x.slots(37), 0);
            t.due("with its last SLOT", x.slots(1), 4);
            t.due("T", x.count(1), 41);
        });
    }

    private static void still() {
        t.edge("Terms 1", STILL, "at first 0, then SLOT by SLOT", () -> {
            SharedAir x = Edges.made("1");
            t.due("at first", x.station(0, 0), 0);
            x.slots(1);
            t.due("behind one", x.station(0, 0), 1);
            x.slots(60);
            t.due("behind 61", x.station(0, 0), 61);
        });
        t.edge("Terms 1", STILL, "who SENDS has 0, and 1 behind the next SLOT", () -> {
            SharedAir x = Edges.asking("3ab1bc1", 5);
            x.slots(3);
            t.due("a SENT", x.station(0, 0), 0);
            t.due("c HEARD nobody", x.station(2, 0), 3);
            x.slots(1);
            t.due("a HEARD b", x.station(0, 0), 0);
        });
        t.edge("Terms 1", STILL, "who HEARS two that SEND has 0 too", () -> {
            SharedAir x = Edges.made("3ab1bc1");
            x.offers(0, 0, 1, 1);
            x.offers(2, 0, 1, 1);
            x.slots(3);
            t.due("b", x.station(1, 0), 0);
            x.slots(1);
            t.due("b, nobody ANSWERS", x.station(1, 0), 1);
            t.due("a too, though its EXCHANGE went on", x.station(0, 0), 1);
        });
        t.edge("Terms 1", STILL, "while its SPAN RUNS it is 0, though nobody is HEARD", () -> {
            SharedAir x = Edges.asking("3ab1bc1", 5);
            x.slots(9);
            // c HEARS b in SLOTS 3 and 9 alone.
            t.due("in the midst of DATA", x.station(2, 0), 0);
            x.slots(1);
            t.due("behind SLOT 9", x.station(2, 0), 0);
            x.slots(1);
            t.due("behind SLOT 10", x.station(2, 0), 1);
        });
        t.edge("Terms 1", STILL, "the SPAN alone keeps it 0", () -> {
            SharedAir x = Edges.spanOfNobody(5);
            x.slots(7);
            // c HEARD a in SLOT 2; nobody SENDS in SLOTS 3 .. 9, but its SPAN RUNS till 10.
            t.due("behind SLOT 9", x.station(2, 0), 0);
            t.due("e's, that HEARD nobody", x.station(4, 0), 10);
            x.slots(1);
            t.due("behind SLOT 10", x.station(2, 0), 1);
        });
        t.edge("Terms 1", STILL, "the latest ones", () -> {
            SharedAir x = Edges.asking("2ab1", 1);
            x.slots(2);
            t.due("behind two", x.station(1, 0), 2);
            x.slots(2);
            t.due("behind DATA and ANSWER", x.station(1, 0), 0);
            x.slots(5);
            t.due("behind five more", x.station(1, 0), 5);
        });
    }

    // ---- Terms 1: what an EXCHANGE is

    private static void exchanges() {
        t.edge("Terms 1", FIRST_FRAMES, "one alone", () -> t.due("FRAMES", framesOf(4, 1), 1));
        t.edge("Terms 1", FIRST_FRAMES, "one behind another", () -> {
            SharedAir x = new SharedAir();
            x.sets(1, 4);
            Edges.net(x, "3ab1ac1");
            Edges.offerMany(x, 2, 0, 0, 1, 1);
            x.offers(0, 0, 2, 1);
            x.offers(0, 0, 1, 1);
            x.slots(3);
            t.due("the one behind another's is not of it", x.exchange(0, 2), 2);
        });
        t.edge("Terms 1", FIRST_FRAMES, "the first ones alone", () -> {
            SharedAir x = new SharedAir();
            x.sets(1, 4);
            Edges.net(x, "3ab1ac1");
            x.offers(0, 0, 2, 1);
            Edges.offerMany(x, 3, 0, 0, 1, 1);
            x.slots(3);
            t.due("with c", x.exchange(0, 0), 2);
            t.due("one", x.exchange(0, 2), 1);
        });
        for (int together = 1; together <= 4; together++) {
            int most = together;
            t.edge("Terms 1", FIRST_FRAMES, "TOGETHER " + most, () -> {
                t.due("of 8", framesOf(most, 8), most);
                t.due("of as many", framesOf(most, most), most);
                t.due("of one less", framesOf(most, Math.max(1, most - 1)), Math.max(1, most - 1));
            });
        }
        t.edge("Terms 1", FIRST_FRAMES, "of one RANK", () -> {
            SharedAir x = new SharedAir();
            x.sets(1, 4);
            Edges.net(x, "2ab1");
            x.offers(0, 0, 1, 1);
            x.offers(0, 1, 1, 1);
            x.slots(3);
            t.due("FRAMES", x.exchange(0, 2), 1);
        });
    }

    private static int framesOf(int together, int many) {
        SharedAir x = new SharedAir();
        x.sets(1, together);
        Edges.net(x, "2ab1");
        Edges.offerMany(x, many, 0, 0, 1, 1);
        x.slots(3);
        return x.exchange(0, 2);
    }

    private static int placesOf(int rate, int units) {
        SharedAir x = Edges.atRate(rate, "2ab3");
        x.offers(0, 0, 1, units);
        Edges.goTillBegun(x, 0);
        return x.exchange(0, 3);
    }

    /** What the SLOT behind that in which a begins is for, if its FRAMES have so many UNITS each. */
    private static int stepBehindTheFirst(int asking, int many, int units) {
        SharedAir x = new SharedAir();
        x.sets(0, asking);
        x.sets(1, 4);
        Edges.net(x, "2ab1");
        Edges.offerMany(x, many, 0, 0, 1, units);
        x.slots(3);
        return x.exchange(0, 4);
    }

    private static void places() {
        int[] by2 = {1, 1, 2, 2, 3, 3, 4, 4, 5};
        int[] by3 = {1, 1, 1, 2, 2, 2, 3, 3, 3};
        t.edge("Terms 1", PLACES, "RATE 1", () -> {
            for (int units = 1; units <= 9; units++) {
                t.due(units + " UNITS", placesOf(1, units), units);
            }
        });
        t.edge("Terms 1", PLACES, "RATE 2, rounded up", () -> {
            for (int units = 1; units <= 9; units++) {
                t.due(units + " UNITS", placesOf(2, units), by2[units - 1]);
            }
        });
        t.edge("Terms 1", PLACES, "RATE 3, rounded up", () -> {
            for (int units = 1; units <= 9; units++) {
                t.due(units + " UNITS", placesOf(3, units), by3[units - 1]);
            }
        });
        t.edge("Terms 1", PLACES, "each FRAME is rounded by itself", () -> {
            SharedAir x = Edges.atRate(2, "2ab3");
            Edges.offerMany(x, 2, 0, 0, 1, 3);
            Edges.goTillBegun(x, 0);
            t.due("FRAMES", x.exchange(0, 2), 2);
            t.due("3 UNITS and 3 UNITS", x.exchange(0, 3), 4);
        });
        t.edge("Terms 1", PLACES, "the RATE from x to y, not another one", () -> {
            SharedAir x = Edges.atRate(2, "3ab3ac3");
            x.offers(1, 0, 0, 4);
            Edges.goTillBegun(x, 1);
            t.due("from b to a", x.exchange(1, 3), 4);
            Edges.goTillQuiet(x);
            x.offers(0, 0, 2, 4);
            Edges.goTillBegun(x, 0);
            t.due("from a to c", x.exchange(0, 3), 4);
        });
        t.edge("Terms 1", ASKING, "D is ASKING", () -> {
            t.due("5 of 5", stepBehindTheFirst(5, 1, 5), 1);
            t.due("1 of 1", stepBehindTheFirst(1, 1, 1), 1);
            t.due("two of 5 and 10", stepBehindTheFirst(10, 2, 5), 1);
        });
        t.edge("Terms 1", ASKING, "D is one less", () -> {
            t.due("4 of 5", stepBehindTheFirst(5, 1, 4), 2);
            t.due("9 of 10", stepBehindTheFirst(10, 1, 9), 2);
            t.due("1 of 2", stepBehindTheFirst(2, 1, 1), 3);
        });
        t.edge("Terms 1", ASKING, "D is one more, PLACES of all of them", () -> {
            t.due("6 of 5", stepBehindTheFirst(5, 1, 6), 1);
            t.due("two of 3 and 5", stepBehindTheFirst(5, 2, 3), 1);
            t.due("two of 2 and 5", stepBehindTheFirst(5, 2, 2), 2);
        });
        t.edge("Terms 1", ASKING, "PLACES count, not UNITS", () -> {
            SharedAir x = Edges.atRate(2, "2ab3");
            x.offers(0, 0, 1, 8);
            Edges.goTillBegun(x, 0);
            t.due("8 UNITS of RATE 2", x.exchange(0, 4), 2);
            SharedAir y = Edges.atRate(2, "2ab3");
            y.offers(0, 0, 1, 9);
            Edges.goTillBegun(y, 0);
            t.due("9 UNITS of RATE 2", y.exchange(0, 4), 1);
        });
        t.edge("Terms 1", ASKING, "one SLOT each of ASK, GRANT, ANSWER, and D of DATA", () -> {
            SharedAir x = Edges.asking("2ab1", 5);
            t.due("not in 9 SLOTS", x.slots(9), 0);
            t.due("in the tenth", x.slots(1), 1);
            SharedAir y = Edges.asking("2ab1", 4);
            t.due("not in 6 SLOTS", y.slots(6), 0);
            t.due("in the seventh", y.slots(1), 1);
        });
    }

    private static void free() {
        t.edge("Terms 1", FREE, "a SENDER is not, from its first SLOT to its last", () -> {
            SharedAir x = Edges.asking("2ab1", 5);
            x.slots(2);
            t.due("ahead of it", x.station(0, 2), 1);
            for (int slot = 2; slot <= 8; slot++) {
                x.slots(1);
                t.due("behind SLOT " + slot, x.station(0, 2), 0);
            }
            x.slots(1);
            t.due("behind it", x.station(0, 2), 1);
        });
        t.edge("Terms 1", FREE, "who owes a GRANT is not", () -> {
            SharedAir x = Edges.asking("2ab1", 5);
            x.slots(3);
            t.due("b owes", x.station(1, 4), 1);
            t.due("b is FREE", x.station(1, 2), 0);
            x.slots(1);
            t.due("b paid", x.station(1, 2), 1);
        });
        t.edge("Terms 1", FREE, "while DATA comes to it, it is", () -> {
            SharedAir x = Edges.asking("2ab1", 5);
            x.slots(8);
            t.due("b owes", x.station(1, 4), 0);
            t.due("b is FREE", x.station(1, 2), 1);
        });
        t.edge("Terms 1", FREE, "who owes an ANSWER is not", () -> {
            SharedAir x = Edges.asking("2ab1", 1);
            x.slots(3);
            t.due("b owes", x.station(1, 4), 2);
            t.due("b is FREE", x.station(1, 2), 0);
            x.slots(1);
            t.due("b paid", x.station(1, 2), 1);
        });
    }

    // ---- Terms 2

    /** An EXCHANGE goes on, a SPAN RUNS, something was DELIVERED, FAILED and LOST; the ROW is 3, 8. */
    private static SharedAir busy() {
        SharedAir x = Edges.made("3ab2bc2ac1");
        x.sets(2, 1);
        x.keep(0);
        x.offers(0, 0, 1, 2);
        x.slots(10);
        x.offers(0, 1, 1, 1);
        x.offers(2, 0, 1, 1);
        x.slots(10);
        Edges.offerMany(x, 8, 1, 0, 0, 9);
        x.slots(6);
        Edges.offerMany(x, 8, 2, 3, 0, 9);
        x.odds(3, 1);
        return x;
    }

    private static void refusal(String call, Edges.Ask ask, long want) {
        t.edge("Terms 2", REFUSED, call, () -> t.changesNothing(TermsEdgeTest::busy, call, ask, want));
    }

    private static void refused() {
        refusal("sets(13, 1)", x -> x.sets(13, 1), -1);
        refusal("sets(0, 0)", x -> x.sets(0, 0), -1);
        refusal("sets(0, 5)", x -> x.sets(0, 5), -2);
        refusal("setting(13)", x -> x.setting(13), Edges.THREW);
        refusal("sheet(4, 2, 3, 1, 1)", x -> x.sheet(4, 2, 3, 1, 1), -1);
        refusal("sheet(0, 2, 3, 1, 1)", x -> x.sheet(0, 2, 3, 1, 1), -4);
        refusal("sheet(0, 3, 3, 1, 1)", x -> x.sheet(0, 3, 3, 1, 1), -4);
        refusal("offers(0, 0, 0, 1)", x -> x.offers(0, 0, 0, 1), -1);
        refusal("offers(1, 0, 0, 1)", x -> x.offers(1, 0, 0, 1), -2);
        refusal("slots(0)", x -> x.slots(0), -1);
        refusal("slots(61)", x -> x.slots(61), -1);
        refusal("station(3, 0)", x -> x.station(3, 0), Edges.THREW);
        refusal("rank(0, 4, 0)", x -> x.rank(0, 4, 0), Edges.THREW);
        refusal("frame(0, 0, 8, 0)", x -> x.frame(0, 0, 8, 0), Edges.THREW);
        refusal("exchange(2, 0)", x -> x.exchange(2, 0), -1);
        refusal("spanOf(3)", x -> x.spanOf(3), -1);
        refusal("rate(0, 0)", x -> x.rate(0, 0), -1);
        refusal("tally(0, 9)", x -> x.tally(0, 9), Edges.THREW);
        refusal("why(3)", x -> x.why(3), -1);
        refusal("spoilt(1, 1)", x -> x.spoilt(1, 1), -1);
        refusal("held(3)", x -> x.held(3), -1);
        refusal("odds(6, 1)", x -> x.odds(6, 1), -1);
        refusal("window(2, 101)", x -> x.window(2, 101), -1);
        refusal("window(2, 100)", x -> x.window(2, 100), -2);
        refusal("ahead(61, 0)", x -> x.ahead(61, 0), -1);
        refusal("soonest(3)", x -> x.soonest(3), -1);
        refusal("years(1, 0)", x -> x.years(1, 0), -1);
        refusal("keep(2)", x -> x.keep(2) ? 1 : 0, 0);
        refusal("again(1)", x -> x.again(1) ? 1 : 0, 0);
        refusal("again(2)", x -> x.again(2) ? 1 : 0, 0);
        refusal("count(8)", x -> x.count(8), -1);
        refusal("row(2)", x -> x.row(2), Edges.THREW);
        refusal("end(1)", x -> x.end(1) ? 1 : 0, 0);
        refusal("net() of no THE NET", x -> x.net(), -1);
        refusal("net() of a fault behind a pair", x -> Edges.net(x, "3ab2bd1"), -6);
        refusal("day() of no DAY", x -> Edges.day(x, "s10ds1"), -7);
        t.edge("Terms 2", REFUSED, "the scene of these tests", () -> {
            SharedAir x = busy();
            t.due("an EXCHANGE goes on", x.count(3), 1);
            t.due("a SPAN RUNS", x.spanOf(2), 1);
            t.due("b's QUEUE is full", x.rank(1, 0, 0), 8);
            t.due("some were DELIVERED", x.count(7) > 0, true);
            t.due("some were LOST", x.tally(0, 2) + x.tally(2, 2) > 0, true);
            t.due("6 can be undone", x.count(4), 6);
        });
        t.edge("Terms 2", REFUSED, "undo() of nothing", () ->
            t.changesNothing(() -> {
                SharedAir x = busy();
                x.again(0);
                return x;
            }, "undo()", x -> x.undo(), -1));
        t.edge("Terms 2", REFUSED, "sign() of a full THE TEXT", () ->
            t.changesNothing(() -> {
                SharedAir x = busy();
                for (int i = 0; i < 20; i++) {
                    x.sign(0x64646464);
                }
                return x;
            }, "sign(1)", x -> x.sign(1), -1));
        t.edge("Terms 2", REFUSED, "THE TEXT is emptied by net() and day() that refuse it", () -> {
            SharedAir x = busy();
            x.sign(0x39616232);
            t.due("net()", x.net(), -1);
            t.due("signs", x.count(6), 0);
            x.sign(0x39616232);
            t.due("day()", x.day(), -1);
            t.due("signs", x.count(6), 0);
        });
        t.edge("Terms 2", REFUSED, "THE TEXT stays with calls that do not read it", () -> {
            SharedAir x = busy();
            Edges.write(x, "3ab1");
            x.sets(99, 1);
            x.offers(9, 0, 1, 1);
            x.slots(0);
            x.sheet(9, 0, 1, 1, 1);
            x.ahead(0, 0);
            x.years(0, 0);
            x.keep(9);
            x.again(9);
            x.end(5);
            x.sign(0x62633100);
            x.end(7);
            x.count(9);
            x.undo();
            t.due("signs", x.count(6), 7);
            t.due("net() reads all of it", x.net(), 2);
            t.due("signs", x.count(6), 0);
        });
        noneFirst();
    }

    private static void noneFirst() {
        t.edge("Terms 2", NONE_FIRST, "sets()", () -> {
            SharedAir x = new SharedAir();
            t.due("another what that is so", x.sets(13, 0), -1);
            t.due("what can't be", x.sets(0, 11), -1);
        });
        t.edge("Terms 2", NONE_FIRST, "sheet()", () -> {
            SharedAir x = busy();
            t.due("another RANK, n below 0", x.sheet(4, 0, -1, 1, 1), -1);
            t.due("another kind, n below 0", x.sheet(0, 4, -1, 1, 1), -1);
            t.due("n above 6, and missing", x.sheet(0, 3, 7, 1, 1), -1);
            t.due("n above 6, an EXCHANGE goes on", x.sheet(0, 0, 7, 1, 1), -1);
        });
        t.edge("Terms 2", NONE_FIRST, "offers()", () -> {
            SharedAir x = Edges.made("3ab1");
            t.due("not HEARD, 0 UNITS", x.offers(0, 0, 2, 0), -1);
            t.due("not HEARD, another RANK", x.offers(0, 4, 2, 1), -1);
            t.due("both are one", x.offers(2, 0, 2, 1), -1);
            Edges.offerMany(x, 8, 0, 0, 1, 1);
            t.due("full, 10 UNITS", x.offers(0, 0, 1, 10), -1);
        });
        t.edge("Terms 2", NONE_FIRST, "rate(), spanOf(), why()", () -> {
            SharedAir x = Edges.made("3ab1");
            t.due("both are one", x.rate(2, 2), -1);
            t.due("no such STATION", x.rate(2, 3), -1);
            t.due("no such STATION", x.spanOf(3), -1);
            t.due("no such STATION", x.why(3), -1);
        });
        t.edge("Terms 2", NONE_FIRST, "window(), soonest()", () -> {
            SharedAir x = Edges.made("3ab1");
            t.due("n above 5", x.window(6, 100), -1);
            t.due("v above 100", x.window(2, 101), -1);
            t.due("no such y", x.soonest(3), -1);
        });
    }

    private static void rowIsLeft(String call, Edges.Ask ask, long want) {
        t.edge("Terms 2", ROW_STAYS, call, () -> {
            SharedAir x = busy();
            t.due(call, Edges.of(() -> ask.of(x)), want);
            t.dueRow(x, 3, 8);
        });
    }

    private static void rowIsLeftByNew(String call, Edges.Ask ask, long want) {
        t.edge("Terms 2", ROW_STAYS, call, () -> {
            SharedAir x = Edges.made("3ab1bc1");
            x.odds(3, 1);
            t.due(call, ask.of(x), want);
            t.dueRow(x, 3, 8);
        });
    }

    private static void rowStays() {
        rowIsLeft("slots(61)", x -> x.slots(61), -1);
        rowIsLeft("spanOf(1): it does not RUN", x -> x.spanOf(1), -2);
        rowIsLeft("spanOf(-1)", x -> x.spanOf(-1), -1);
        rowIsLeft("rate(0, 3)", x -> x.rate(0, 3), -1);
        rowIsLeft("why(1): none FAILED", x -> x.why(1), -2);
        rowIsLeft("why(3)", x -> x.why(3), -1);
        rowIsLeft("spoilt(0, 3)", x -> x.spoilt(0, 3), -1);
        rowIsLeft("held(3)", x -> x.held(3), -1);
        rowIsLeft("odds(0, 0)", x -> x.odds(0, 0), -1);
        rowIsLeft("quiet(): not by then", x -> x.quiet(), -2);
        rowIsLeft("soonest(3)", x -> x.soonest(3), -1);
        rowIsLeft("soonest(0): b's QUEUE is full, c HEARS a", x -> {
            Edges.offerMany(x, 8, 2, 0, 1, 9);
            return x.soonest(0);
        }, -2);
        rowIsLeft("day() of no DAY", x -> Edges.day(x, "x"), -1);
        rowIsLeft("years(1, 41)", x -> x.years(1, 41), -1);
        rowIsLeftByNew("sent(): there was none", x -> x.sent(), -2);
        rowIsLeftByNew("rate(0, 2): they do not HEAR", x -> x.rate(0, 2), -2);
        rowIsLeftByNew("even(): nothing was DELIVERED", x -> x.even(), -2);
        rowIsLeftByNew("next(): none", x -> x.next(), -2);
        rowIsLeftByNew("soonest(0) of none", x -> {
            Edges.offerMany(x, 8, 1, 0, 0, 1);
            return x.soonest(0);
        }, -2);
        rowIsLeft("sign(1)", x -> x.sign(1), 4);
        rowIsLeft("end(0)", x -> x.end(0) ? 1 : 0, 1);
        rowIsLeft("net()", x -> Edges.net(x, "2ab1"), 1);
        rowIsLeft("sets(0, 6)", x -> x.sets(0, 6), 105);
        rowIsLeft("setting(0)", x -> x.setting(0), 5);
        rowIsLeft("sheet()", x -> {
            Edges.net(x, "2ab1");
            return x.sheet(0, 2, 2, 1, 1);
        }, 2);
        rowIsLeft("offers()", x -> x.offers(2, 2, 1, 1), 1);
        rowIsLeft("draws()", x -> x.draws(), 2);
        rowIsLeft("station(0, 5)", x -> x.station(0, 5), 6);
        rowIsLeft("rank(1, 0, 0)", x -> x.rank(1, 0, 0), 8);
        rowIsLeft("frame(1, 0, 7, 1)", x -> x.frame(1, 0, 7, 1), 9);
        rowIsLeft("exchange(1, 0)", x -> x.exchange(1, 0), 0);
        rowIsLeft("tally(1, 3)", x -> x.tally(1, 3), 1);
        rowIsLeft("window(2, 50)", x -> x.window(2, 50), 1);
        rowIsLeft("window(2, 100)", x -> x.window(2, 100), -2);
        rowIsLeft("ahead(1, 0)", x -> x.ahead(1, 0), 0);
        rowIsLeft("undo()", x -> x.undo(), 5);
        rowIsLeft("keep(1)", x -> x.keep(1) ? 1 : 0, 1);
        rowIsLeft("again(0)", x -> x.again(0) ? 1 : 0, 1);
        rowIsLeft("count(0)", x -> x.count(0), 3);
        rowIsLeft("row(1)", x -> x.row(1), 8);
        String questions = "Questions change nothing.";
        question(questions, "sent()", x -> x.sent());
        question(questions, "spanOf(2)", x -> x.spanOf(2));
        question(questions, "rate(0, 1)", x -> x.rate(0, 1));
        question(questions, "hidden()", x -> x.hidden());
        question(questions, "why(0)", x -> x.why(0));
        question(questions, "spoilt(0, 2)", x -> x.spoilt(0, 2));
        question(questions, "held(0)", x -> x.held(0));
        question(questions, "even()", x -> x.even());
        question(questions, "busy()", x -> x.busy());
        question(questions, "odds(5, 31)", x -> x.odds(5, 31));
        question(questions, "window(5, 90)", x -> x.window(5, 90));
        question(questions, "ahead(60, 0)", x -> x.ahead(60, 0));
        question(questions, "quiet()", x -> x.quiet());
        question(questions, "next()", x -> x.next());
        question(questions, "soonest(0)", x -> x.soonest(0));
        question(questions, "years(5, 40)", x -> x.years(5, 40));
    }

    private static void question(String sentence, String call, Edges.Act ask) {
        t.edge("Terms 2", sentence, call, () -> t.changesNoState(TermsEdgeTest::busy, call, ask));
    }

    private static void bits() {
        String row = "ROW: numbers told last by a call that says so.";
        t.edge("Terms 2", row, "a new object has none", () -> t.dueRow(new SharedAir()));
        t.edge("Terms 2", row, "a shorter one takes a longer one's place", () -> {
            SharedAir x = Edges.made("2ab1");
            x.slots(1);
            t.dueRow(x, 0, 0, 0);
            x.sent();
            t.dueRow(x, 0, 0);
            x.quiet();
            t.dueRow(x, 0);
            x.years(1, 1);
            t.dueRow(x, 0, 0, 7);
        });
        t.edge("Terms 2", "Sets are bits (STATION a is 1).", "a is 1, f is 32", () -> {
            SharedAir x = Edges.made("6af1");
            t.due("f HEARS a", x.station(5, 5), 1);
            t.due("a HEARS f", x.station(0, 5), 32);
            x.offers(5, 0, 0, 1);
            x.slots(3);
            t.due("f SENDS", x.sent(), 32);
            t.dueRow(x, 1, 0);
        });
        t.edge("Terms 2", "Sets are bits (STATION a is 1).", "all six", () -> {
            SharedAir x = Edges.made("6ab1cd1ef1");
            for (int s = 0; s < 6; s++) {
                x.offers(s, 0, s % 2 == 0 ? s + 1 : s - 1, 1);
            }
            t.due("next()", x.next(), 2);
            t.dueRow(x, 63);
        });
    }

    private static void manyCalls() {
        String calls = "An object is used for at most 512 calls after it has been made";
        t.edge("What it is", calls, "the 512th answers as the first", () -> {
            SharedAir x = Edges.made("2ab1");
            // made() takes four calls, and two are left for what is asked at last.
            for (int call = 5; call <= 510; call++) {
                t.due("slots(60)", x.slots(60), 0);
            }
            t.due("T", x.count(1), 506 * 60);
            t.due("STILL", x.station(0, 0), 506 * 60);
        });
    }
}
