/** Each sentence of the document's steps of a SLOT, (a) to (g) in Terms 1, that names a boundary case. */
public final class StepsEdgeTest {
    private static final Edges t = new Edges();
    private static final String STILL = "STILL of a STATION (at first 0): how many SLOTS one behind another, the latest "
        + "ones, it did not SEND, HEARD none that SENT, its SPAN did not RUN.";
    private static final String CLEAR = "It is CLEAR for x in a SLOT: it HEARS x, x SENDS, it does not SEND itself, and of "
        + "all others that it HEARS none SENDS.";
    private static final String PLACES = "of each PLACES: UNITS by RATE (from x to y), rounded up; D: PLACES of all.";
    private static final String FREE = "FREE: not the SENDER of an EXCHANGE, and owes no GRANT, no ANSWER.";
    private static final String READY = "RANKS are READY whose QUEUE is not empty, whose COUNT is 0, and WAIT of which is at "
        + "most STILL.";
    private static final String INSIDE = "each other READY RANK meets it INSIDE: it FAILS by RANK (see (f)), by numbers.";
    private static final String DUE = "who owes a GRANT or an ANSWER (in the SLOT in which it is due, the one behind that in "
        + "which it came to owe it).";
    private static final String ASK_HEARD = "ASK: if y is CLEAR for x, FREE, and its SPAN does not RUN, it owes a GRANT.";
    private static final String ASK_SPAN = "Each other STATION that is CLEAR for x: its SPAN is the end of that of the "
        + "EXCHANGE, if that is more.";
    private static final String GRANT = "if y SENDS it and x is CLEAR for y: DATA begins with the next SLOT; each STATION but x "
        + "that is CLEAR for y: its SPAN as in (c). Else the EXCHANGE FAILS.";
    private static final String WHOLE = "a FRAME is WHOLE, if in all of its PLACES (the FRAMES' PLACES one behind another) y is "
        + "CLEAR for x, and QUALITY of x and y is not below RATE.";
    private static final String DATA_SPAN = "In the last SLOT of DATA: each STATION but y that is CLEAR for x: its SPAN is "
        + "T + 2, if that is more (T: this SLOT)";
    private static final String ANSWER_OWED = "y, if a FRAME is WHOLE and y is FREE, owes an ANSWER.";
    private static final String DELIVERED = "if y SENDS it and x is CLEAR for y: WHOLE FRAMES are DELIVERED and leave the QUEUE, "
        + "each other one of the EXCHANGE was TRIED once more, and if that is TRIES often, it is LOST and leaves it; the WINDOW "
        + "is the LEAST one, COUNT is DRAWN";
    private static final String LUCK = "LUCK is 1 more, and if it is 3: RATE is 1 more (3 at most), LUCK 0. Else the EXCHANGE "
        + "FAILS. In both cases it is over.";
    private static final String FAILS = "it is over; the first FRAME of its RANK was TRIED once more; if that is TRIES often, it "
        + "is LOST, leaves the QUEUE, and the WINDOW is the LEAST one; else the WINDOW is twice it and 1 (the GREATEST at most); "
        + "COUNT is DRAWN";
    private static final String RATE_DOWN = "by ANSWER also: RATE is 1 less (1 at least), LUCK 0.";
    private static final String BY_RANK = "By RANK (INSIDE): likewise, but RATE and LUCK stay.";
    private static final String BY_NUMBERS = "All steps (c) to (f) go STATION by STATION (as SENDERS), by numbers, by who SENDS "
        + "in this SLOT (and FREE, owing, SPANS as they are then).";
    private static final String COUNT_DOWN = "of each RANK with a QUEUE that is not empty, COUNT above 0, and STILL above WAIT: "
        + "COUNT is 1 less.";

    public static void main(String[] args) {
        begin();
        inside();
        owed();
        ask();
        askSpans();
        grant();
        whole();
        dataSpans();
        answerOwed();
        delivered();
        luck();
        fails();
        failsByAnswerAndInside();
        byNumbers();
        countsDown();
        t.finish("Steps of a SLOT", "Terms 1");
    }

    // ---- Terms 1: step (a)

    private static void begin() {
        String free = "STATIONS by numbers: one that is FREE, its SPAN not RUNNING";
        t.edge("Terms 1", free, "by numbers: a DRAWS ahead of b", () -> {
            SharedAir x = Edges.made("2ab1");
            for (int s = 1; s >= 0; s--) {
                x.offers(s, 0, 1 - s, 1);
                x.offers(s, 1, 1 - s, 1);
            }
            x.slots(3);
            t.due("a's RANK 1", x.rank(0, 1, 1), 16838 % 16);
            t.due("b's RANK 1", x.rank(1, 1, 1), 38526 % 16);
        });
        t.edge("Terms 1", free, "a SENDER begins no other one", () -> {
            SharedAir x = Edges.asking("2ab1", 9);
            x.slots(3);
            x.sets(4, 1);
            x.offers(0, 1, 1, 1);
            x.slots(10);
            t.due("begun", x.tally(0, 3), 1);
            t.due("it goes on", x.exchange(0, 1), 0);
        });
        t.edge("Terms 1", free, "while its SPAN RUNS it does not begin", () -> {
            SharedAir x = Edges.spanOfNobody(5);
            x.sets(4, 1);
            x.offers(2, 1, 4, 1);
            x.slots(8);
            t.due("T", x.count(1), 11);
            t.due("SLOTS 3 .. 10", x.tally(2, 3), 0);
            x.slots(1);
            t.due("SLOT 11", x.tally(2, 3), 1);
        });
        t.edge("Terms 1", READY, "an empty QUEUE is not", () -> {
            SharedAir x = Edges.made("2ab1");
            x.slots(60);
            t.due("rank(0, 0, 3)", x.rank(0, 0, 3), 0);
            t.due("begun", x.tally(0, 3), 0);
            t.due("next()", x.next(), -2);
        });
        t.edge("Terms 1", READY, "COUNT 1 is not, COUNT 0 is", () -> {
            SharedAir x = Edges.made("2ab1");
            x.offers(0, 0, 1, 1);
            x.draws();
            t.due("COUNT", x.rank(0, 0, 1), 2);
            x.slots(3);
            t.due("COUNT behind SLOT 2", x.rank(0, 0, 1), 1);
            t.due("READY", x.rank(0, 0, 3), 0);
            x.slots(1);
            t.due("SLOT 3: not begun", x.tally(0, 3), 0);
            t.due("COUNT behind SLOT 3", x.rank(0, 0, 1), 0);
            t.due("READY", x.rank(0, 0, 3), 1);
            x.slots(1);
            t.due("SLOT 4: begun", x.tally(0, 3), 1);
        });
        for (int wait = 1; wait <= 9; wait += 4) {
            int it = wait;
            t.edge("Terms 1", READY, "STILL as WAIT " + it + " is, STILL one less is not", () -> {
                SharedAir x = new SharedAir();
                x.sets(6, it);
                Edges.net(x, "2ab1");
                x.offers(0, 3, 1, 1);
                if (it > 1) {
                    x.slots(it - 1);
                }
                t.due("STILL is 1 less", x.rank(0, 3, 3), 0);
                x.slots(1);
                t.due("READY", x.rank(0, 3, 3), 1);
                t.due("not begun", x.tally(0, 3), 0);
                x.slots(1);
                t.due("begun", x.tally(0, 3), 1);
            });
        }
        t.edge("Terms 1", "it begins an EXCHANGE of the READY RANK of the least number", "a lesser RANK that is not READY", () -> {
            SharedAir x = Edges.made("2ab1");
            x.sets(3, 9);
            x.offers(0, 3, 1, 1);
            x.offers(0, 2, 1, 1);
            x.offers(0, 0, 1, 1);
            x.slots(4);
            t.due("RANK 2 begins", x.exchange(0, 1), 2);
        });
        t.edge("Terms 1", "it begins an EXCHANGE of the READY RANK of the least number", "0 ahead of 1", () -> {
            SharedAir x = Edges.made("2ab1");
            x.offers(0, 1, 1, 1);
            x.offers(0, 0, 1, 1);
            x.slots(3);
            t.due("RANK", x.exchange(0, 1), 0);
        });
    }

    private static void inside() {
        t.edge("Terms 1", INSIDE, "one READY RANK meets nobody", () -> {
            SharedAir x = Edges.made("2ab1");
            x.offers(0, 0, 1, 1);
            x.slots(3);
            t.dueRow(x, 0, 0, 0);
            t.due("INSIDE", x.tally(0, 6), 0);
        });
        t.edge("Terms 1", INSIDE, "RANKS that are not READY do not meet it", () -> {
            SharedAir x = Edges.made("2ab1");
            x.offers(0, 0, 1, 1);
            x.offers(0, 2, 1, 1);
            x.slots(3);
            t.due("RANK 2 WAITS 3", x.tally(0, 6), 0);
            t.due("TRIED", x.frame(0, 2, 0, 2), 0);
        });
        t.edge("Terms 1", INSIDE, "all four at once", () -> {
            SharedAir x = Edges.made("2ab1");
            for (int r = 0; r < 4; r++) {
                x.sets(3 + r, 4);
                x.offers(0, r, 1, 1);
            }
            x.slots(5);
            t.due("INSIDE", x.tally(0, 6), 3);
            t.due("RANK 1's COUNT", x.rank(0, 1, 1), 16838 % 16);
            t.due("RANK 2's COUNT", x.rank(0, 2, 1), 38526 % 32);
            t.due("RANK 3's COUNT", x.rank(0, 3, 1), 10113 % 32);
            t.due("RANK 0 begins", x.exchange(0, 1), 0);
            t.due("RANK 0 is not TRIED", x.frame(0, 0, 0, 2), 0);
        });
    }

    // ---- Terms 1: steps (b), (c), (d)

    private static void owed() {
        t.edge("Terms 1", "SENDERS in ASK or DATA SEND", "in GRANT and ANSWER they do not", () -> {
            SharedAir x = Edges.asking("2ab1", 5);
            int[] due = {0, 0, 1, 2, 1, 1, 1, 1, 1, 2, 0};
            for (int slot = 0; slot < due.length; slot++) {
                x.slots(1);
                t.due("who SENT in SLOT " + slot, x.sent(), due[slot]);
            }
        });
        t.edge("Terms 1", "SENDERS in ASK or DATA SEND", "in DATA at once, if none is ASKED", () -> {
            SharedAir x = Edges.asking("2ab1", 4);
            int[] due = {0, 0, 1, 1, 1, 1, 2, 0};
            for (int slot = 0; slot < due.length; slot++) {
                x.slots(1);
                t.due("who SENT in SLOT " + slot, x.sent(), due[slot]);
            }
        });
        t.edge("Terms 1", DUE, "a GRANT, in the next SLOT alone", () -> {
            SharedAir x = Edges.asking("2ab1", 5);
            x.slots(3);
            t.due("ASK", x.sent(), 1);
            t.due("b owes", x.station(1, 3), 0);
            x.slots(1);
            t.due("GRANT", x.sent(), 2);
            t.due("b owes nobody", x.station(1, 3), -1);
            x.slots(1);
            t.due("DATA", x.sent(), 1);
        });
        t.edge("Terms 1", DUE, "an ANSWER, in the next SLOT alone", () -> {
            SharedAir x = Edges.asking("2ab1", 1);
            x.slots(3);
            t.due("DATA", x.sent(), 1);
            t.due("b owes", x.station(1, 3), 0);
            x.slots(1);
            t.due("ANSWER", x.sent(), 2);
            t.due("b owes nobody", x.station(1, 3), -1);
            x.slots(1);
            t.due("nothing", x.sent(), 0);
        });
        t.edge("Terms 1", DUE, "it is SENT in vain, and gone", () -> {
            SharedAir x = answersAtOnce();
            x.slots(1);
            t.due("b and c SEND", x.sent(), 6);
            t.due("b owes", x.station(1, 4), 0);
            t.due("c owes", x.station(2, 4), 0);
        });
    }

    /**
     * d's DATA for c in SLOTS 2 and 3, a's FRAME for b in SLOT 3: a HEARS both ANSWERS in SLOT 4, d that of c alone.
     * T is 4.
     */
    private static SharedAir answersAtOnce() {
        SharedAir x = Edges.made("4ab2ac2cd2");
        Edges.offerMany(x, 2, 3, 0, 2, 1);
        x.offers(0, 2, 1, 1);
        x.slots(4);
        return x;
    }

    /** As answersAtOnce(), but a ASKS in SLOT 3: its GRANT is SENT in SLOT 4 beside c's ANSWER. T is 4. */
    private static SharedAir grantInVain() {
        SharedAir x = Edges.made("4ab2ac2cd2");
        Edges.offerMany(x, 2, 3, 0, 2, 1);
        x.offers(0, 2, 1, 5);
        x.slots(4);
        return x;
    }

    private static void ask() {
        t.edge("Terms 1", ASK_HEARD, "all three hold", () -> {
            SharedAir x = Edges.asking("2ab1", 5);
            x.slots(3);
            t.due("b owes", x.station(1, 4), 1);
        });
        t.edge("Terms 1", ASK_HEARD, "y HEARS another one too", () -> {
            SharedAir x = Edges.made("3ab1bc1");
            x.offers(0, 0, 1, 5);
            x.offers(2, 0, 1, 5);
            x.slots(3);
            t.due("b owes", x.station(1, 4), 0);
            x.slots(1);
            t.due("nobody SENDS", x.sent(), 0);
            t.due("both FAILED", x.tally(0, 4) + x.tally(2, 4), 2);
            t.due("a's why", x.why(0), 1);
        });
        t.edge("Terms 1", ASK_HEARD, "y SENDS itself", () -> {
            SharedAir x = Edges.made("2ab1");
            x.offers(0, 0, 1, 5);
            x.offers(1, 0, 0, 5);
            x.slots(4);
            t.due("b owes", x.station(1, 4), 0);
            t.due("a's why", x.why(0), 1);
            t.due("b's why", x.why(1), 1);
        });
        t.edge("Terms 1", ASK_HEARD, "in the last SLOT of y's SPAN", () -> {
            SharedAir x = Edges.spanOfNobody(5);
            x.slots(6);
            x.offers(4, 0, 2, 5);
            x.slots(1);
            t.due("SLOT 9", x.exchange(4, 4), 1);
            t.due("c owes nothing", x.station(2, 4), 0);
            x.slots(1);
            t.due("why", x.why(4), 3);
        });
        t.edge("Terms 1", ASK_HEARD, "in the SLOT that y's SPAN tells", () -> {
            SharedAir x = Edges.spanOfNobody(5);
            x.slots(7);
            x.offers(4, 0, 2, 5);
            x.slots(1);
            t.due("SLOT 10", x.exchange(4, 4), 1);
            t.due("c owes a GRANT", x.station(2, 4), 1);
            t.due("to e", x.station(2, 3), 4);
        });
        t.edge("Terms 1", ASK_HEARD, "x's own SPAN does not matter to y", () -> {
            SharedAir x = Edges.asking("3ab1bc1", 5);
            x.slots(12);
            x.offers(2, 0, 1, 5);
            x.slots(1);
            t.due("b owes c a GRANT", x.station(1, 3), 2);
        });
        t.edge("Terms 1", "The next SLOT is for GRANT.", "though y owes none", () -> {
            SharedAir x = Edges.made("3ab1bc1");
            x.offers(0, 0, 1, 5);
            x.offers(2, 0, 1, 5);
            x.slots(3);
            t.due("exchange(0, 4)", x.exchange(0, 4), 1);
            t.due("exchange(0, 5)", x.exchange(0, 5), 1);
        });
    }

    /**
     * a and e ASK b at once in SLOT 2 and FAIL in SLOT 3: c's SPAN by a's ASK is 14, and T is 4. In SLOT 4 d ASKS f for so
     * many PLACES, which c HEARS too: the end of that is 7 and so many.
     */
    private static SharedAir twoSpans(int units) {
        SharedAir x = Edges.made("6ab2ac2be2cd2df2");
        x.offers(0, 0, 1, 9);
        x.offers(4, 0, 1, 5);
        x.slots(4);
        x.offers(3, 0, 5, units);
        x.slots(1);
        return x;
    }

    private static void askSpans() {
        t.edge("Terms 1", ASK_SPAN, "more than none", () -> {
            SharedAir x = Edges.asking("3ab1ac1", 5);
            x.slots(3);
            t.due("c's", x.station(2, 1), 10);
            t.due("y has none", x.station(1, 1), 0);
            t.due("x has none", x.station(0, 1), 0);
        });
        t.edge("Terms 1", ASK_SPAN, "one less than it has", () -> {
            SharedAir x = twoSpans(6);
            t.due("c's SPAN", x.station(2, 1), 14);
            t.due("it is a's", x.spanOf(2), 0);
        });
        t.edge("Terms 1", ASK_SPAN, "just as much as it has", () -> {
            SharedAir x = twoSpans(7);
            t.due("c's SPAN", x.station(2, 1), 14);
            t.due("it is a's", x.spanOf(2), 0);
        });
        t.edge("Terms 1", ASK_SPAN, "one more than it has", () -> {
            SharedAir x = twoSpans(8);
            t.due("c's SPAN", x.station(2, 1), 15);
            t.due("it is d's", x.spanOf(2), 3);
            t.dueRow(x, 0, 10);
        });
        t.edge("Terms 1", ASK_SPAN, "who is not CLEAR has none", () -> {
            SharedAir x = Edges.made("4ab1ac1cd1");
            x.offers(0, 0, 1, 5);
            x.offers(3, 0, 2, 1);
            x.slots(3);
            t.due("c HEARS a and d", x.station(2, 1), 0);
        });
        t.edge("Terms 1", ASK_SPAN, "though y owes no GRANT", () -> {
            SharedAir x = Edges.spanOfNobody(9);
            t.due("b owes nothing", x.station(1, 4), 0);
            t.due("c's SPAN", x.station(2, 1), 14);
        });
        t.edge("Terms 1", ASK_SPAN, "it stays when the EXCHANGE FAILS", () -> {
            SharedAir x = Edges.spanOfNobody(9);
            x.slots(1);
            t.due("a is in none", x.exchange(0, 0), -1);
            t.due("c's SPAN", x.station(2, 1), 14);
            t.due("of a", x.spanOf(2), 0);
            t.dueRow(x, 0, 10);
        });
    }

    private static void grant() {
        t.edge("Terms 1", GRANT, "DATA begins with the next SLOT", () -> {
            SharedAir x = Edges.asking("2ab1", 5);
            x.slots(4);
            t.due("what is next", x.exchange(0, 4), 2);
            t.due("all of it is left", x.exchange(0, 5), 5);
        });
        t.edge("Terms 1", GRANT, "y does not SEND it", () -> {
            SharedAir x = Edges.spanOfNobody(5);
            x.slots(1);
            t.due("it is over", x.exchange(0, 0), -1);
            t.due("FAILED", x.tally(0, 4), 1);
            t.due("TRIED", x.frame(0, 0, 0, 2), 1);
        });
        t.edge("Terms 1", GRANT, "y SENDS something else", () -> {
            // b's own DATA for c is in SLOTS 2 .. 5; a ASKS it in SLOT 2 and HEARS it alone in SLOT 3.
            SharedAir x = Edges.made("3ab1bc1");
            x.offers(0, 0, 1, 5);
            x.offers(1, 0, 2, 4);
            x.slots(4);
            t.due("b SENT", x.sent(), 2);
            t.dueRow(x, 5, 0);
            t.due("a's is over", x.exchange(0, 0), -1);
            t.due("why", x.why(0), 1);
            t.dueRow(x, 3, 1);
        });
        t.edge("Terms 1", GRANT, "x HEARS another one too", () -> {
            SharedAir x = grantInVain();
            x.slots(1);
            t.due("b and c SENT", x.sent(), 6);
            t.due("it is over", x.exchange(0, 0), -1);
            t.due("why", x.why(0), 4);
        });
        t.edge("Terms 1", GRANT, "each STATION but x that is CLEAR for y", () -> {
            SharedAir x = Edges.asking("4ab1bc1", 5);
            x.slots(4);
            t.due("c's", x.station(2, 1), 10);
            t.due("of a", x.spanOf(2), 0);
            t.due("a has none", x.station(0, 1), 0);
            t.due("b has none", x.station(1, 1), 0);
            t.due("d HEARS nobody", x.station(3, 1), 0);
        });
        t.edge("Terms 1", GRANT, "if that is more, as in (c)", () -> {
            SharedAir x = Edges.asking("3ab1bc1ac1", 5);
            x.slots(4);
            t.due("c had it by ASK", x.spanOf(2), 0);
            t.dueRow(x, 0, 6);
        });
        t.edge("Terms 1", GRANT, "who is not CLEAR for y has none", () -> {
            // d's short DATA is in SLOT 3, where c HEARS b's GRANT and d.
            SharedAir x = Edges.made("5ab1bc1cd1de1");
            x.offers(0, 0, 1, 5);
            x.offers(3, 2, 4, 1);
            x.slots(4);
            t.due("b and d SENT", x.sent(), 10);
            t.due("c's", x.station(2, 1), 0);
        });
    }

    // ---- Terms 1: step (e)

    /** a's two FRAMES for b, of 1 and 2 PLACES, from SLOT 2 on; c turns to d in that SLOT and b HEARS it. T is 2. */
    private static SharedAir spoiltIn(int slot) {
        SharedAir x = Edges.made("4ab2bc2cd2");
        x.sets(3, 3);
        x.sets(4, slot);
        x.offers(0, 0, 1, 1);
        x.offers(0, 0, 1, 2);
        x.offers(2, 1, 3, 1);
        x.slots(3);
        return x;
    }

    private static void whole() {
        t.edge("Terms 1", WHOLE, "no PLACE is spoilt", () -> {
            SharedAir x = spoiltIn(9);
            x.slots(3);
            t.due("both", x.exchange(0, 6), 3);
        });
        t.edge("Terms 1", WHOLE, "the first one's only PLACE is spoilt", () -> {
            SharedAir x = spoiltIn(3);
            x.slots(1);
            t.due("so far", x.exchange(0, 6), 0);
            x.slots(2);
            t.due("the other one", x.exchange(0, 6), 2);
        });
        t.edge("Terms 1", WHOLE, "the other one's first PLACE is spoilt", () -> {
            SharedAir x = spoiltIn(4);
            x.slots(3);
            t.due("the first one", x.exchange(0, 6), 1);
        });
        t.edge("Terms 1", WHOLE, "the other one's last PLACE is spoilt", () -> {
            SharedAir x = spoiltIn(5);
            x.slots(2);
            t.due("so far", x.exchange(0, 6), 1);
            x.slots(1);
            t.due("the first one", x.exchange(0, 6), 1);
        });
        t.edge("Terms 1", WHOLE, "QUALITY as RATE", () -> {
            SharedAir x = Edges.atRate(2, "2ab2");
            x.offers(0, 0, 1, 2);
            x.slots(9);
            t.due("it came", x.count(2), 0);
            SharedAir y = Edges.atRate(3, "2ab3");
            y.offers(0, 0, 1, 3);
            y.slots(9);
            t.due("it came", y.count(2), 0);
        });
        t.edge("Terms 1", WHOLE, "QUALITY one below RATE", () -> {
            SharedAir x = Edges.atRate(2, "2ab1");
            x.offers(0, 0, 1, 2);
            Edges.goTillBegun(x, 0);
            t.due("the ANSWER is next", x.exchange(0, 4), 3);
            t.due("none", x.exchange(0, 6), 0);
            t.due("b owes nothing", x.station(1, 4), 0);
            x.slots(1);
            t.due("why", x.why(0), 5);
        });
    }

    private static void dataSpans() {
        t.edge("Terms 1", DATA_SPAN, "of one SLOT", () -> {
            SharedAir x = Edges.asking("3ab1ac1", 1);
            x.slots(3);
            t.due("SLOT 2 and 2", x.station(2, 1), 4);
            t.due("it RUNS in SLOT 3", x.spanOf(2), 0);
            t.dueRow(x, 2, 1);
            t.due("y has none", x.station(1, 1), 0);
            x.slots(1);
            t.due("it does not in SLOT 4", x.spanOf(2), -2);
        });
        t.edge("Terms 1", DATA_SPAN, "not in a SLOT ahead of the last one", () -> {
            SharedAir x = Edges.asking("3ab1ac1", 2);
            x.slots(3);
            t.due("behind SLOT 2", x.station(2, 1), 0);
            x.slots(1);
            t.due("behind SLOT 3", x.station(2, 1), 5);
        });
        t.edge("Terms 1", DATA_SPAN, "just as much as it has", () -> {
            SharedAir x = Edges.asking("3ab1ac1", 5);
            x.slots(9);
            // The last SLOT of DATA is 8, and c's SPAN by ASK is 10.
            t.due("c's", x.spanOf(2), 0);
            t.dueRow(x, 0, 1);
        });
        t.edge("Terms 1", DATA_SPAN, "less than it has", () -> {
            SharedAir x = twoSpans(1);
            t.due("d's DATA is in SLOT 4", x.exchange(3, 4), 3);
            t.due("c's SPAN", x.station(2, 1), 14);
            t.due("of a", x.spanOf(2), 0);
        });
        t.edge("Terms 1", DATA_SPAN, "who is not CLEAR has none", () -> {
            SharedAir x = Edges.made("5ab1ac1cd1de1");
            x.offers(0, 0, 1, 1);
            x.offers(3, 0, 4, 1);
            x.slots(3);
            t.due("c HEARS a and d", x.station(2, 1), 0);
        });
        t.edge("Terms 1", DATA_SPAN, "though no FRAME is WHOLE", () -> {
            SharedAir x = Edges.made("4ab1ac1bd1");
            x.offers(0, 0, 1, 1);
            x.offers(3, 0, 1, 1);
            x.slots(3);
            t.due("b owes nothing", x.station(1, 4), 0);
            t.due("c's", x.station(2, 1), 4);
        });
    }

    private static void answerOwed() {
        t.edge("Terms 1", ANSWER_OWED, "one of two FRAMES is enough", () -> {
            SharedAir x = spoiltIn(3);
            x.slots(3);
            t.due("b owes", x.station(1, 4), 2);
            t.due("to a", x.station(1, 3), 0);
        });
        t.edge("Terms 1", ANSWER_OWED, "none is WHOLE", () -> {
            SharedAir x = Edges.made("3ab1bc1");
            x.offers(0, 0, 1, 1);
            x.offers(2, 0, 1, 1);
            x.slots(3);
            t.due("b owes", x.station(1, 4), 0);
            x.slots(1);
            t.due("why", x.why(0), 5);
        });
        t.edge("Terms 1", ANSWER_OWED, "y's own EXCHANGE goes on", () -> {
            // b's one FRAME for c is in SLOT 2, and spoilt by a; in SLOT 3, as its ANSWER is due, a's other one is WHOLE.
            SharedAir x = Edges.made("3ab2ac2bc2");
            Edges.offerMany(x, 2, 0, 0, 1, 1);
            x.offers(1, 0, 2, 1);
            x.slots(3);
            t.due("b waits for its ANSWER", x.exchange(1, 4), 3);
            x.slots(1);
            t.due("a's other one is WHOLE", x.exchange(0, 6), 2);
            t.due("b owes nothing", x.station(1, 4), 0);
            x.slots(1);
            t.due("why", x.why(0), 6);
        });
        t.edge("Terms 1", ANSWER_OWED, "y's SPAN does not matter", () -> {
            // c HEARS b's GRANT in SLOT 3: its SPAN is 14. d turns to c in SLOT 5.
            SharedAir x = Edges.asking("4ab2bc2cd2", 9);
            x.slots(5);
            x.offers(3, 0, 2, 1);
            x.slots(1);
            t.due("c's SPAN RUNS", x.spanOf(2), 0);
            t.due("c owes d an ANSWER", x.station(2, 4), 2);
            t.due("it comes", x.slots(1), 1);
        });
    }

    private static void delivered() {
        t.edge("Terms 1", DELIVERED, "all WHOLE ones at once", () -> {
            SharedAir x = new SharedAir();
            x.sets(1, 4);
            Edges.net(x, "2ab1");
            Edges.offerMany(x, 4, 0, 0, 1, 1);
            t.due("not ahead of the ANSWER", x.slots(6), 0);
            t.due("with it", x.slots(1), 4);
            t.due("none waits", x.rank(0, 0, 0), 0);
        });
        t.edge("Terms 1", DELIVERED, "the WHOLE one leaves, the other one stays", () -> {
            SharedAir x = spoiltIn(3);
            x.slots(4);
            t.due("one came", x.tally(0, 0), 1);
            t.due("of 2 UNITS", x.tally(0, 1), 2);
            t.due("one stays", x.rank(0, 0, 0), 1);
            t.due("of 1 UNIT", x.frame(0, 0, 0, 1), 1);
            t.due("TRIED", x.frame(0, 0, 0, 2), 1);
        });
        t.edge("Terms 1", DELIVERED, "the other one is the second of two", () -> {
            SharedAir x = spoiltIn(5);
            x.slots(4);
            t.due("one came", x.tally(0, 0), 1);
            t.due("of 1 UNIT", x.tally(0, 1), 1);
            t.due("one stays", x.rank(0, 0, 0), 1);
            t.due("of 2 UNITS", x.frame(0, 0, 0, 1), 2);
            t.due("TRIED", x.frame(0, 0, 0, 2), 1);
        });
        t.edge("Terms 1", DELIVERED, "the other ones are the second and the third of four", () -> {
            // c's two PLACES for d, in SLOTS 4 and 5, spoil a's second FRAME and its third one.
            SharedAir x = Edges.made("4ab2bc2cd2");
            x.sets(1, 4);
            x.sets(3, 3);
            x.sets(4, 4);
            for (int units = 1; units <= 4; units++) {
                x.offers(0, 0, 1, 1);
            }
            x.offers(2, 1, 3, 2);
            x.slots(8);
            t.due("the first and the last one", x.tally(0, 0), 2);
            t.due("two stay", x.rank(0, 0, 0), 2);
            t.due("TRIED", x.frame(0, 0, 0, 2) + x.frame(0, 0, 1, 2), 2);
        });
        t.edge("Terms 1", DELIVERED, "those behind move up with all of theirs", () -> {
            SharedAir x = Edges.made("3ab2ac2");
            x.offers(0, 0, 1, 1);
            x.slots(1);
            x.offers(0, 0, 2, 5);
            x.slots(1);
            x.offers(0, 0, 1, 7);
            t.due("the first one", x.slots(2), 1);
            t.due("two stay", x.rank(0, 0, 0), 2);
            t.due("to c", x.frame(0, 0, 0, 0), 2);
            t.due("of 5 UNITS", x.frame(0, 0, 0, 1), 5);
            t.due("offered in SLOT 1", x.frame(0, 0, 0, 3), 1);
            t.due("to b", x.frame(0, 0, 1, 0), 1);
            t.due("of 7 UNITS", x.frame(0, 0, 1, 1), 7);
            t.due("offered in SLOT 2", x.frame(0, 0, 1, 3), 2);
        });
        t.edge("Terms 1", DELIVERED, "one behind the EXCHANGE was not TRIED", () -> {
            SharedAir x = spoiltIn(3);
            x.offers(0, 0, 1, 7);
            x.slots(4);
            t.due("two stay", x.rank(0, 0, 0), 2);
            t.due("the first one", x.frame(0, 0, 0, 2), 1);
            t.due("that of 7 UNITS", x.frame(0, 0, 1, 2), 0);
        });
        t.edge("Terms 1", DELIVERED, "TRIES 2: TRIED once it stays", () -> {
            SharedAir x = spoiltIn(3);
            x.sets(2, 2);
            x.slots(4);
            t.due("LOST", x.tally(0, 2), 0);
            t.due("it stays", x.rank(0, 0, 0), 1);
        });
        t.edge("Terms 1", DELIVERED, "TRIES 1: TRIED once it is LOST", () -> {
            SharedAir x = spoiltIn(3);
            x.sets(2, 1);
            x.slots(4);
            t.due("LOST", x.tally(0, 2), 1);
            t.due("it leaves", x.rank(0, 0, 0), 0);
            t.due("no EXCHANGE FAILED", x.tally(0, 4), 0);
        });
        t.edge("Terms 1", DELIVERED, "TRIES 2 and 1, of the second of two", () -> {
            SharedAir x = spoiltIn(5);
            x.sets(2, 2);
            x.slots(4);
            t.due("LOST", x.tally(0, 2), 0);
            t.due("it stays", x.rank(0, 0, 0), 1);
            SharedAir y = spoiltIn(5);
            y.sets(2, 1);
            y.slots(4);
            t.due("LOST", y.tally(0, 2), 1);
            t.due("it leaves", y.rank(0, 0, 0), 0);
        });
        t.edge("Terms 1", DELIVERED, "the WINDOW is the LEAST one again", () -> {
            SharedAir x = Edges.made("2ab1");
            x.sets(3, 3);
            x.sets(5, 3);
            x.offers(0, 0, 1, 1);
            x.offers(0, 2, 1, 1);
            x.slots(4);
            t.due("INSIDE", x.rank(0, 2, 2), 31);
            x.slots(1);
            Edges.goTillQuiet(x);
            t.due("none waits", x.count(2), 0);
            t.due("WINDOW", x.rank(0, 2, 2), 15);
        });
        t.edge("Terms 1", DELIVERED, "COUNT is DRAWN, though the QUEUE is empty", () -> {
            SharedAir x = Edges.asking("2ab1", 1);
            x.slots(4);
            t.due("none waits", x.count(2), 0);
            t.due("SEED", x.setting(12), 1103527590);
            t.due("COUNT", x.rank(0, 0, 1), 16838 % 4);
        });
        t.edge("Terms 1", DELIVERED, "y SENDS something else", () -> {
            // b's own DATA for c is in SLOTS 2 .. 5; a's FRAME is in SLOT 2, and a HEARS b alone in SLOT 3.
            SharedAir x = Edges.made("3ab1bc1");
            x.offers(0, 0, 1, 1);
            x.offers(1, 0, 2, 4);
            x.slots(4);
            t.due("b SENT", x.sent(), 2);
            t.due("none came", x.tally(0, 0), 0);
            t.due("a's FAILED", x.tally(0, 4), 1);
            t.due("why", x.why(0), 5);
        });
        t.edge("Terms 1", DELIVERED, "COUNT is the LEAST WINDOW itself at most", () -> {
            for (int count = 0; count <= 3; count++) {
                SharedAir x = Edges.asking("2ab1", 1);
                x.sets(12, Edges.seedFor(new int[] {3}, count));
                x.slots(4);
                t.due("COUNT", x.rank(0, 0, 1), count);
            }
        });
        t.edge("Terms 1", DELIVERED, "one COUNT is DRAWN of all of them", () -> {
            SharedAir x = Edges.made("2ab1");
            Edges.offerMany(x, 2, 0, 0, 1, 1);
            x.slots(5);
            t.due("both came", x.count(7), 2);
            t.due("SEED", x.setting(12), 1103527590);
        });
        t.edge("Terms 1", DELIVERED, "x HEARS another one too", () -> {
            SharedAir x = answersAtOnce();
            x.slots(1);
            t.due("a's FRAME stays", x.rank(0, 2, 0), 1);
            t.due("why", x.why(0), 7);
            t.due("d's first one came, by the same SLOT", x.tally(3, 0), 1);
        });
    }

    private static void luck() {
        t.edge("Terms 1", LUCK, "LUCK 1 and 2", () -> {
            SharedAir x = Edges.atRate(1, "2ab3");
            for (int luck = 1; luck <= 2; luck++) {
                x.offers(0, 0, 1, 1);
                x.slots(9);
                t.due("RATE", x.rate(0, 1), 1);
                t.dueRow(x, luck, 3);
            }
        });
        t.edge("Terms 1", LUCK, "the third one", () -> {
            SharedAir x = Edges.atRate(2, "2ab3");
            t.due("RATE", x.rate(0, 1), 2);
            t.dueRow(x, 0, 3);
            x.offers(0, 0, 1, 1);
            x.slots(9);
            t.due("RATE", x.rate(0, 1), 2);
            t.dueRow(x, 1, 3);
        });
        t.edge("Terms 1", LUCK, "RATE 3 at most, LUCK 0 all the same", () -> {
            SharedAir x = Edges.atRate(3, "2ab3");
            for (int luck = 1; luck <= 3; luck++) {
                x.offers(0, 0, 1, 1);
                x.slots(9);
                t.due("RATE", x.rate(0, 1), 3);
                t.dueRow(x, luck % 3, 3);
            }
        });
        t.edge("Terms 1", LUCK, "RATE goes above QUALITY", () -> {
            SharedAir x = Edges.atRate(2, "2ab1");
            t.due("RATE", x.rate(0, 1), 2);
            t.dueRow(x, 0, 1);
        });
        t.edge("Terms 1", LUCK, "one for an EXCHANGE, not for each FRAME", () -> {
            SharedAir x = new SharedAir();
            x.sets(1, 4);
            Edges.net(x, "2ab3");
            Edges.offerMany(x, 4, 0, 0, 1, 1);
            x.slots(7);
            t.due("RATE", x.rate(0, 1), 1);
            t.dueRow(x, 1, 3);
        });
        t.edge("Terms 1", LUCK, "in both cases it is over", () -> {
            SharedAir x = Edges.asking("2ab1", 1);
            x.slots(4);
            t.due("DELIVERED", x.exchange(0, 0), -1);
            SharedAir y = answersAtOnce();
            t.due("it goes on", y.exchange(0, 4), 3);
            y.slots(1);
            t.due("FAILED", y.exchange(0, 0), -1);
        });
    }

    // ---- Terms 1: step (f)

    /** c has 36 PLACES for d, from SLOT 3 on (it ASKED in SLOT 1), and b HEARS them: whatever a tells b FAILS. T is 3. */
    private static SharedAir jammed(int tries, int least, int greatest) {
        SharedAir x = new SharedAir();
        x.sets(1, 4);
        x.sets(2, tries);
        x.sets(4, 1);
        x.sets(3, 1);
        x.sets(7, least);
        x.sets(11, greatest);
        Edges.net(x, "4ab2bc2cd2");
        Edges.offerMany(x, 4, 2, 1, 3, 9);
        x.slots(3);
        return x;
    }

    private static void fails() {
        for (int tries = 1; tries <= 7; tries++) {
            int most = tries;
            t.edge("Terms 1", FAILS, "TRIES " + most, () -> {
                SharedAir x = jammed(most, 1, 1);
                x.offers(0, 0, 1, 1);
                for (int tried = 1; tried < most; tried++) {
                    goTillFailed(x, tried);
                    t.due("TRIED " + tried + " times", x.frame(0, 0, 0, 2), tried);
                }
                t.due("LOST", x.tally(0, 2), 0);
                goTillFailed(x, most);
                t.due("LOST", x.tally(0, 2), 1);
                t.due("it leaves", x.rank(0, 0, 0), 0);
                t.due("FAILED", x.tally(0, 4), most);
            });
        }
        t.edge("Terms 1", FAILS, "the first FRAME alone was TRIED", () -> {
            SharedAir x = jammed(4, 1, 1);
            Edges.offerMany(x, 3, 0, 0, 1, 1);
            goTillFailed(x, 1);
            t.due("FRAMES of it", x.frame(0, 0, 0, 2), 1);
            t.due("the second one", x.frame(0, 0, 1, 2), 0);
            t.due("the third one", x.frame(0, 0, 2, 2), 0);
        });
        t.edge("Terms 1", FAILS, "the next one begins with 0", () -> {
            SharedAir x = jammed(1, 1, 1);
            x.offers(0, 0, 1, 1);
            x.offers(0, 0, 1, 2);
            goTillFailed(x, 1);
            t.due("one stays", x.rank(0, 0, 0), 1);
            t.due("of 2 UNITS", x.frame(0, 0, 0, 1), 2);
            t.due("TRIED", x.frame(0, 0, 0, 2), 0);
        });
        int[] least = {1, 3, 3, 3, 31, 31, 31, 31, 15, 15};
        int[] greatest = {63, 63, 7, 6, 63, 62, 31, 1, 31, 30};
        int[] becomes = {3, 7, 7, 6, 63, 62, 31, 1, 31, 30};
        for (int i = 0; i < least.length; i++) {
            int k = i;
            t.edge("Terms 1", FAILS, "WINDOW " + least[k] + ", GREATEST " + greatest[k], () -> {
                SharedAir x = jammed(4, least[k], greatest[k]);
                x.offers(0, 0, 1, 1);
                x.slots(2);
                t.due("FAILED", x.tally(0, 4), 1);
                t.due("WINDOW", x.rank(0, 0, 2), becomes[k]);
            });
        }
        t.edge("Terms 1", FAILS, "LOST: the WINDOW is the LEAST one", () -> {
            SharedAir x = jammed(2, 1, 63);
            x.offers(0, 0, 1, 1);
            goTillFailed(x, 1);
            t.due("WINDOW", x.rank(0, 0, 2), 3);
            goTillFailed(x, 2);
            t.due("LOST", x.tally(0, 2), 1);
            t.due("WINDOW", x.rank(0, 0, 2), 1);
        });
        t.edge("Terms 1", FAILS, "LOST: the LEAST one as it is set now", () -> {
            SharedAir x = jammed(1, 1, 63);
            x.sets(7, 5);
            t.due("ahead of it", x.rank(0, 0, 2), 1);
            x.offers(0, 0, 1, 1);
            goTillFailed(x, 1);
            t.due("WINDOW", x.rank(0, 0, 2), 5);
        });
        t.edge("Terms 1", FAILS, "COUNT is DRAWN of the new WINDOW, though the QUEUE is empty", () -> {
            SharedAir x = jammed(1, 31, 63);
            x.sets(12, 1);
            x.offers(0, 0, 1, 1);
            x.slots(2);
            t.due("LOST", x.rank(0, 0, 0), 0);
            t.due("COUNT", x.rank(0, 0, 1), 16838 % 32);
            SharedAir y = jammed(4, 31, 63);
            y.sets(12, 1);
            y.offers(0, 0, 1, 1);
            y.slots(2);
            t.due("COUNT", y.rank(0, 0, 1), 16838 % 64);
        });
        t.edge("Terms 1", FAILS, "COUNT is the WINDOW itself at most", () -> {
            int[] counts = {0, 1, 62, 63};
            for (int count : counts) {
                SharedAir x = jammed(4, 31, 63);
                x.sets(12, Edges.seedFor(new int[] {63}, count));
                x.offers(0, 0, 1, 1);
                x.slots(2);
                t.due("COUNT", x.rank(0, 0, 1), count);
            }
        });
        t.edge("Terms 1", FAILS, "others' RANKS stay", () -> {
            SharedAir x = jammed(4, 3, 63);
            x.offers(0, 0, 1, 1);
            x.offers(0, 3, 1, 1);
            x.slots(2);
            t.due("RANK 3's WINDOW", x.rank(0, 3, 2), 15);
            t.due("b's WINDOW", x.rank(1, 0, 2), 3);
            t.due("RANK 3 was TRIED", x.frame(0, 3, 0, 2), 0);
        });
    }

    private static void goTillFailed(SharedAir x, int times) {
        for (int i = 0; i < 60 && x.tally(0, 4) < times; i++) {
            x.slots(1);
        }
    }

    private static void failsByAnswerAndInside() {
        t.edge("Terms 1", RATE_DOWN, "from 2 to 1", () -> {
            SharedAir x = Edges.atRate(2, "2ab1");
            x.offers(0, 0, 1, 2);
            Edges.goTillBegun(x, 0);
            x.slots(1);
            t.due("RATE", x.rate(0, 1), 1);
            t.dueRow(x, 0, 1);
        });
        t.edge("Terms 1", RATE_DOWN, "from 3 to 2", () -> {
            SharedAir x = Edges.atRate(3, "2ab2");
            t.due("RATE", x.rate(0, 1), 3);
            x.offers(0, 0, 1, 2);
            Edges.goTillBegun(x, 0);
            x.slots(1);
            t.due("RATE", x.rate(0, 1), 2);
        });
        t.edge("Terms 1", RATE_DOWN, "1 at least, and LUCK 0", () -> {
            SharedAir x = Edges.made("3ab1bc1");
            for (int i = 0; i < 2; i++) {
                x.offers(0, 0, 1, 1);
                x.slots(9);
            }
            t.due("RATE", x.rate(0, 1), 1);
            t.dueRow(x, 2, 1);
            failAtOnce(x);
            t.due("FAILED", x.tally(0, 4), 1);
            t.due("RATE", x.rate(0, 1), 1);
            t.dueRow(x, 0, 1);
        });
        t.edge("Terms 1", RATE_DOWN, "by GRANT they stay", () -> {
            SharedAir x = Edges.made("3ab1bc1");
            for (int i = 0; i < 2; i++) {
                x.offers(0, 0, 1, 1);
                x.slots(9);
            }
            x.sets(0, 1);
            failAtOnce(x);
            t.due("FAILED", x.tally(0, 4), 1);
            t.due("by GRANT", x.why(0), 1);
            t.due("RATE", x.rate(0, 1), 1);
            t.dueRow(x, 2, 1);
            SharedAir y = Edges.atRate(2, "3ab3bc3");
            y.sets(0, 1);
            failAtOnce(y);
            t.due("FAILED", y.tally(0, 4), 1);
            t.due("RATE", y.rate(0, 1), 2);
        });
        t.edge("Terms 1", BY_RANK, "RATE 2 stays", () -> {
            SharedAir y = Edges.atRate(2, "2ab3");
            y.offers(0, 0, 1, 1);
            y.offers(0, 1, 1, 1);
            Edges.drawCounts(y, 0, 0);
            y.slots(1);
            t.due("INSIDE", y.tally(0, 6), 1);
            t.due("RATE", y.rate(0, 1), 2);
            t.dueRow(y, 0, 3);
        });
        t.edge("Terms 1", BY_RANK, "LUCK 2 stays", () -> {
            SharedAir x = Edges.made("2ab3");
            for (int i = 0; i < 2; i++) {
                x.offers(0, 0, 1, 1);
                x.slots(9);
            }
            x.offers(0, 0, 1, 1);
            x.offers(0, 1, 1, 1);
            Edges.drawCounts(x, 0, 0);
            x.slots(1);
            t.due("INSIDE", x.tally(0, 6), 1);
            t.due("RATE", x.rate(0, 1), 1);
            t.dueRow(x, 2, 3);
        });
        t.edge("Terms 1", BY_RANK, "TRIES often it is LOST, and the WINDOW is the LEAST one", () -> {
            SharedAir x = Edges.made("2ab1");
            x.sets(2, 1);
            x.offers(0, 0, 1, 1);
            x.offers(0, 1, 1, 1);
            x.slots(3);
            t.dueRow(x, 1, 0, 1);
            t.due("it leaves", x.rank(0, 1, 0), 0);
            t.due("WINDOW", x.rank(0, 1, 2), 7);
            t.due("COUNT", x.rank(0, 1, 1), 16838 % 8);
            SharedAir y = Edges.made("2ab1");
            y.sets(2, 2);
            y.offers(0, 0, 1, 1);
            y.offers(0, 1, 1, 1);
            y.slots(3);
            t.dueRow(y, 0, 0, 1);
            t.due("TRIED", y.frame(0, 1, 0, 2), 1);
            t.due("WINDOW", y.rank(0, 1, 2), 15);
        });
        t.edge("Terms 1", BY_RANK, "the GREATEST at most", () -> {
            SharedAir x = Edges.made("2ab1");
            x.sets(11, 14);
            x.offers(0, 0, 1, 1);
            x.offers(0, 1, 1, 1);
            x.slots(3);
            t.due("WINDOW", x.rank(0, 1, 2), 14);
        });
    }

    /** a and c turn to b with one FRAME each at once: both FAIL. */
    private static void failAtOnce(SharedAir x) {
        x.offers(0, 0, 1, 1);
        x.offers(2, 0, 1, 1);
        Edges.drawCounts(x, 0, 0);
        x.slots(2);
    }

    // ---- Terms 1: step (g)

    private static void byNumbers() {
        t.edge("Terms 1", BY_NUMBERS, "what a lesser STATION did stands", () -> {
            // In SLOT 3 a's EXCHANGE with c FAILS ahead of b's last SLOT of DATA: a is FREE by then.
            SharedAir x = Edges.made("3ab2ac2bc2");
            Edges.offerMany(x, 2, 1, 0, 0, 1);
            x.offers(0, 0, 2, 1);
            x.slots(4);
            t.due("a owes b an ANSWER", x.station(0, 4), 2);
        });
        t.edge("Terms 1", BY_NUMBERS, "what a greater STATION does comes later", () -> {
            SharedAir x = Edges.made("3ab2ac2bc2");
            Edges.offerMany(x, 2, 0, 0, 1, 1);
            x.offers(1, 0, 2, 1);
            x.slots(4);
            t.due("b was not FREE in a's step", x.station(1, 4), 0);
            x.slots(1);
            t.due("why", x.why(0), 6);
        });
        t.edge("Terms 1", BY_NUMBERS, "COUNTS are DRAWN by numbers", () -> {
            SharedAir x = Edges.made("3ab1bc1");
            x.sets(7, 31);
            x.sets(11, 63);
            Edges.net(x, "3ab1bc1");
            x.offers(2, 0, 1, 1);
            x.offers(0, 0, 1, 1);
            x.slots(4);
            t.due("a's", x.rank(0, 0, 1), 16838 % 64);
            t.due("c's", x.rank(2, 0, 1), 38526 % 64);
        });
        t.edge("Terms 1", "T is 1 more.", "with each SLOT", () -> {
            SharedAir x = new SharedAir();
            x.slots(1);
            t.due("T", x.count(1), 1);
            x.slots(60);
            t.due("T", x.count(1), 61);
        });
    }

    private static void countsDown() {
        t.edge("Terms 1", "Then of each STATION: STILL is told anew;", "COUNT goes by the new one", () -> {
            SharedAir x = drawn14();
            x.slots(3);
            t.due("STILL is 3, as WAIT", x.station(0, 0), 3);
            x.slots(1);
            t.due("STILL 4 is told", x.station(0, 0), 4);
            t.due("COUNT, in that SLOT", x.rank(0, 2, 1), 13);
        });
        t.edge("Terms 1", "Then of each STATION: STILL is told anew;", "0 keeps COUNT in that SLOT", () -> {
            SharedAir x = drawn14();
            x.slots(5);
            t.due("COUNT", x.rank(0, 2, 1), 12);
            x.offers(1, 0, 0, 1);
            x.slots(1);
            t.due("a HEARD b", x.station(0, 0), 0);
            t.due("COUNT", x.rank(0, 2, 1), 12);
        });
        t.edge("Terms 1", COUNT_DOWN, "STILL as WAIT: it stays", () -> {
            SharedAir x = drawn14();
            x.slots(3);
            t.due("COUNT", x.rank(0, 2, 1), 14);
        });
        t.edge("Terms 1", COUNT_DOWN, "STILL above WAIT: 1 less", () -> {
            SharedAir x = drawn14();
            x.slots(4);
            t.due("COUNT", x.rank(0, 2, 1), 13);
            x.slots(13);
            t.due("COUNT", x.rank(0, 2, 1), 0);
            t.due("not begun", x.tally(0, 3), 0);
            x.slots(1);
            t.due("begun", x.tally(0, 3), 1);
        });
        t.edge("Terms 1", COUNT_DOWN, "an empty QUEUE's stays", () -> {
            SharedAir x = Edges.asking("2ab1", 1);
            x.slots(4);
            t.due("COUNT", x.rank(0, 0, 1), 2);
            x.slots(60);
            t.due("COUNT", x.rank(0, 0, 1), 2);
        });
        t.edge("Terms 1", COUNT_DOWN, "COUNT 0 stays 0", () -> {
            SharedAir x = Edges.asking("2ab1", 1);
            x.slots(2);
            t.due("COUNT", x.rank(0, 0, 1), 0);
            x.slots(1);
            t.due("COUNT", x.rank(0, 0, 1), 0);
        });
        t.edge("Terms 1", COUNT_DOWN, "while the air is not still it stays", () -> {
            SharedAir x = drawn14();
            x.slots(4);
            x.offers(1, 0, 0, 4);
            x.slots(5);
            t.due("b's FRAME came", x.count(7), 1);
            t.due("COUNT", x.rank(0, 2, 1), 13);
            x.slots(3);
            t.due("STILL is 3", x.rank(0, 2, 1), 13);
            x.slots(1);
            t.due("STILL is 4", x.rank(0, 2, 1), 12);
        });
        t.edge("Terms 1", COUNT_DOWN, "each RANK by its own WAIT", () -> {
            SharedAir x = drawn14();
            x.offers(0, 3, 1, 1);
            Edges.drawCounts(x, 9, 11);
            x.slots(6);
            t.due("RANK 2 WAITS 3", x.rank(0, 2, 1), 6);
            t.due("RANK 3 WAITS 6", x.rank(0, 3, 1), 11);
            x.slots(1);
            t.due("RANK 2", x.rank(0, 2, 1), 5);
            t.due("RANK 3", x.rank(0, 3, 1), 10);
        });
    }

    /** a's RANK 2 (WAIT 3) has a FRAME and COUNT 14. T is 0. */
    private static SharedAir drawn14() {
        SharedAir x = Edges.made("2ab1");
        x.sets(12, 1103527590);
        x.offers(0, 2, 1, 1);
        x.draws();
        return x;
    }
}
