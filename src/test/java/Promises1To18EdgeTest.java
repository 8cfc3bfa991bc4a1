/** Each sentence of the document's Promises 1 to 18 that names a boundary case. */
public final class Promises1To18EdgeTest {
    private static final Edges t = new Edges();

    public static void main(String[] args) {
        newObject();
        sign();
        end();
        netDigits();
        netFaults();
        netAnew();
        sets();
        setting();
        sheetEntries();
        sheetRefused();
        offers();
        slots();
        draws();
        station();
        rank();
        frame();
        exchange();
        sent();
        spanOf();
        rate();
        hidden();
        String[] wanted = new String[18];
        for (int p = 1; p <= 18; p++) {
            wanted[p - 1] = "Promise " + p;
        }
        t.finish("Promises 1 to 18", wanted);
    }

    // ---- 1 .. 7: texts, settings

    private static void newObject() {
        String sentence = "`SharedAir()`: No STATIONS.";
        t.edge("Promise 1", sentence, "count(0) and all else is 0", () -> {
            SharedAir x = new SharedAir();
            for (int what = 0; what <= 7; what++) {
                t.due("count(" + what + ")", x.count(what), 0);
            }
            t.dueRow(x);
        });
        t.edge("Promise 1", sentence, "calls of a STATION", () -> {
            SharedAir x = new SharedAir();
            t.dueThrow("station(0, 0)", () -> x.station(0, 0));
            t.dueThrow("rank(0, 0, 0)", () -> x.rank(0, 0, 0));
            t.dueThrow("frame(0, 0, 0, 0)", () -> x.frame(0, 0, 0, 0));
            t.dueThrow("tally(0, 0)", () -> x.tally(0, 0));
            t.due("exchange(0, 0)", x.exchange(0, 0), -1);
            t.due("spanOf(0)", x.spanOf(0), -1);
            t.due("rate(0, 1)", x.rate(0, 1), -1);
            t.due("why(0)", x.why(0), -1);
            t.due("spoilt(0, 1)", x.spoilt(0, 1), -1);
            t.due("held(0)", x.held(0), -1);
            t.due("soonest(0)", x.soonest(0), -1);
            t.due("offers(0, 0, 1, 1)", x.offers(0, 0, 1, 1), -1);
        });
        t.edge("Promise 1", sentence, "calls of all", () -> {
            SharedAir x = new SharedAir();
            t.due("sent()", x.sent(), -2);
            t.due("hidden()", x.hidden(), 0);
            t.due("even()", x.even(), -2);
            t.due("busy()", x.busy(), 0);
            t.dueRow(x, 0, 0);
            t.due("quiet()", x.quiet(), 0);
            t.due("next()", x.next(), -2);
            t.due("ahead(60, 3)", x.ahead(60, 3), 0);
            t.due("years(1, 40)", x.years(1, 40), 0);
            t.due("sheet(0, 2, 6, 1, 1)", x.sheet(0, 2, 6, 1, 1), 0);
            t.due("draws()", x.draws(), 0);
            t.due("slots(60)", x.slots(60), 0);
            t.due("sent()", x.sent(), 0);
            t.due("busy()", x.busy(), 0);
            t.dueRow(x, 60, 0);
        });
        t.edge("Promise 1", sentence, "nothing to undo, nothing kept", () -> {
            SharedAir x = new SharedAir();
            t.due("undo()", x.undo(), -1);
            t.due("again(0)", x.again(0), false);
            t.due("again(1)", x.again(1), false);
        });
        t.edge("Promise 1", sentence, "a DAY's ACTS of none", () -> {
            SharedAir x = new SharedAir();
            t.due("f", Edges.day(x, "fa0b1"), 0);
            t.dueRow(x, 1, 0);
            t.due("d and s", Edges.day(x, "ds05"), 2);
            t.dueRow(x, 0, 0);
        });
    }

    private static SharedAir withSigns(int many) {
        SharedAir x = new SharedAir();
        for (int i = 0; i < (many + 3) / 4; i++) {
            x.sign(0x64646464);
        }
        x.end(many);
        return x;
    }

    private static void sign() {
        String sentence = "Refused: there would be more than 80.";
        t.edge("Promise 2", sentence, "80 in all", () -> {
            SharedAir x = withSigns(76);
            t.due("sign", x.sign(0x64646464), 80);
            t.due("count(6)", x.count(6), 80);
            t.due("all are signs", x.day(), 80);
        });
        t.edge("Promise 2", sentence, "84 in all", () -> {
            SharedAir x = withSigns(80);
            t.due("sign", x.sign(0x64646464), -1);
            t.due("count(6)", x.count(6), 80);
        });
        for (int many = 77; many <= 79; many++) {
            int it = many;
            t.edge("Promise 2", sentence, it + " and four", () -> {
                SharedAir x = withSigns(it);
                t.due("sign", x.sign(0x78787878), -1);
                t.due("none of them came", x.count(6), it);
                t.due("the first ones stay", x.day(), it);
            });
        }
        String order = "Four signs come behind THE TEXT, of v the highest byte first: how many it has.";
        t.edge("Promise 2", order, "the first four", () -> {
            SharedAir x = new SharedAir();
            t.due("sign", x.sign(0x32616231), 4);
            t.due("2ab1", x.net(), 1);
        });
        t.edge("Promise 2", order, "behind them", () -> {
            SharedAir x = new SharedAir();
            x.sign(0x33616231);
            t.due("sign", x.sign(0x62633278), 8);
            x.end(7);
            t.due("3ab1bc2", x.net(), 2);
            t.due("QUALITY", x.rate(1, 2), 1);
            t.dueRow(x, 0, 2);
        });
        t.edge("Promise 2", order, "v below 0, and 0: signs 255 and 0", () -> {
            SharedAir x = new SharedAir();
            t.due("sign(-1)", x.sign(-1), 4);
            t.due("255 is no digit", x.net(), -1);
            t.due("sign(0)", x.sign(0), 4);
            t.due("0 is no digit", x.net(), -1);
            // The highest byte is 0xb1, that is 0x31 of a digit 1 with its highest bit.
            t.due("sign", x.sign(0xb1313131), 4);
            t.due("177 is no digit", x.net(), -1);
        });
        t.edge("Promise 2", order, "behind what end() left", () -> {
            SharedAir x = withSigns(2);
            t.due("sign", x.sign(0x73303561), 6);
            x.end(5);
            t.due("dds05", x.day(), 3);
            t.due("T", x.count(1), 5);
        });
    }

    private static void end() {
        String sentence = "THE TEXT has its first n signs alone: true; false if it has not so many, or n is below 0.";
        t.edge("Promise 3", sentence, "n is as many as it has", () -> {
            SharedAir x = withSigns(7);
            t.due("end(7)", x.end(7), true);
            t.due("count(6)", x.count(6), 7);
        });
        t.edge("Promise 3", sentence, "n is one more", () -> {
            SharedAir x = withSigns(7);
            t.due("end(8)", x.end(8), false);
            t.due("count(6)", x.count(6), 7);
        });
        t.edge("Promise 3", sentence, "n is one less", () -> {
            SharedAir x = withSigns(7);
            t.due("end(6)", x.end(6), true);
            t.due("count(6)", x.count(6), 6);
            t.due("what was cut is gone", x.end(7), false);
        });
        t.edge("Promise 3", sentence, "n is 0", () -> {
            SharedAir x = withSigns(7);
            t.due("end(0)", x.end(0), true);
            t.due("count(6)", x.count(6), 0);
            t.due("of an empty one", x.end(0), true);
            t.due("1 of an empty one", x.end(1), false);
        });
        t.edge("Promise 3", sentence, "n below 0", () -> {
            SharedAir x = withSigns(7);
            t.due("end(-1)", x.end(-1), false);
            t.due("end(MIN)", x.end(Integer.MIN_VALUE), false);
            t.due("count(6)", x.count(6), 7);
        });
        t.edge("Promise 3", sentence, "n is 80, and above it", () -> {
            SharedAir x = withSigns(80);
            t.due("end(81)", x.end(81), false);
            t.due("end(MAX)", x.end(Integer.MAX_VALUE), false);
            t.due("end(80)", x.end(80), true);
        });
        t.edge("Promise 3", sentence, "its first ones, not its last ones", () -> {
            SharedAir x = new SharedAir();
            x.sign(0x64647878);
            x.end(2);
            t.due("dd", x.day(), 2);
        });
    }

    private static void readsNet(String sentence, String edge, String text, int want) {
        t.edge("Promise 4", sentence, edge + ": " + text, () -> {
            SharedAir x = Edges.made("3ab1bc1");
            x.offers(0, 0, 1, 1);
            x.slots(1);
            t.due("net()", Edges.net(x, text), want);
            t.due("THE TEXT is empty", x.count(6), 0);
            if (want < 0) {
                t.due("STATIONS stay", x.count(0), 3);
                t.due("FRAMES stay", x.count(2), 1);
                t.due("T stays", x.count(1), 1);
                t.due("nothing is kept of it", x.count(4), 3);
            }
        });
    }

    private static void netDigits() {
        String digit = "a digit 1 .. 6 (STATIONS), then any many times: two letters a .. f and a digit 1 .. 3";
        readsNet(digit, "1 STATION", "1", 0);
        readsNet(digit, "6 STATIONS", "6", 0);
        readsNet(digit, "0 STATIONS", "0", -1);
        readsNet(digit, "7 STATIONS", "7", -1);
        readsNet(digit, "the sign below 0", "/", -1);
        readsNet(digit, "the sign above 9", ":", -1);
        readsNet(digit, "no digit, but a letter", "ab1", -1);
        readsNet(digit, "no pair", "2", 0);
        readsNet(digit, "all 15 pairs", "6ab1ac2ad3ae1af2bc3bd1be2bf3cd1ce2cf3de1df2ef3", 15);
        readsNet(digit, "QUALITY 1", "2ab1", 1);
        readsNet(digit, "QUALITY 3", "2ab3", 1);
        readsNet(digit, "QUALITY 0", "2ab0", -4);
        readsNet(digit, "QUALITY 4", "2ab4", -4);
        readsNet(digit, "the letter f", "6fa1", 1);
        readsNet(digit, "the letter g", "6ga1", -2);
        readsNet(digit, "the sign below a", "6`a1", -2);
        readsNet(digit, "a capital letter", "6AB1", -2);
        readsNet(digit, "the greater one first", "2ba1", 1);
        t.edge("Promise 4", "how many pairs HEAR each other", "of 6 STATIONS", () -> {
            SharedAir x = new SharedAir();
            t.due("net()", Edges.net(x, "6af1fb2ed3"), 3);
            t.due("a HEARS f", x.station(0, 5), 32);
            t.due("b HEARS f", x.station(1, 5), 32);
            t.due("c HEARS none", x.station(2, 5), 0);
            t.due("d HEARS e", x.station(3, 5), 16);
            t.due("e HEARS d", x.station(4, 5), 8);
            t.due("f HEARS a and b", x.station(5, 5), 3);
        });
    }

    private static void netFaults() {
        String there = "a letter of a STATION that there is not";
        readsNet(there, "the first letter", "2ca1", -2);
        readsNet(there, "the second letter", "2ac1", -3);
        readsNet(there, "of one STATION", "1ba1", -2);
        readsNet(there, "of one STATION, the second letter", "1ab1", -3);
        readsNet(there, "of 5, the last one", "5ef1", -3);
        readsNet(there, "of 6, none", "6ef1", 1);
        readsNet(there, "behind a good pair", "3ab1cd1", -6);
        String second = "the second letter, if both are one, or they were told";
        readsNet(second, "both are one", "2aa1", -3);
        readsNet(second, "both are one, of one STATION", "1aa1", -3);
        readsNet(second, "told", "2ab1ab1", -6);
        readsNet(second, "told the other way", "2ab1ba1", -6);
        readsNet(second, "told with another QUALITY", "3ab1bc2ab3", -9);
        readsNet(second, "told and not there: the first fault counts", "3ab1ab9", -6);
        readsNet(second, "a pair of the same letters with others is none", "3ab1ac1bc1", 3);
        String early = "its end, if it ends too early";
        readsNet(early, "nothing", "", -1);
        readsNet(early, "a letter is missing", "3a", -3);
        readsNet(early, "a digit is missing", "3ab", -4);
        readsNet(early, "behind a pair", "3ab1b", -6);
        readsNet(early, "behind a pair, a digit", "3ab1bc", -7);
        String at = "-1 - p: the sign at p can't stand there";
        readsNet(at, "the first one", "x", -1);
        readsNet(at, "a digit instead of a letter", "221", -2);
        readsNet(at, "a digit instead of the other letter", "2a1", -3);
        readsNet(at, "a letter instead of a digit", "2aba", -4);
        readsNet(at, "a sign behind the last pair", "2ab1 ", -5);
        readsNet(at, "the last of 80 signs", "3ab1" + "x".repeat(76), -5);
        t.edge("Promise 4", at, "signs that were cut do not matter", () -> {
            SharedAir x = new SharedAir();
            Edges.write(x, "2ab1xxxx");
            x.end(4);
            t.due("net()", x.net(), 1);
            Edges.write(x, "2ab1");
            x.end(3);
            t.due("its end", x.net(), -4);
        });
        t.edge("Promise 4", at, "what a net() that can't be read told leaves nothing", () -> {
            SharedAir x = new SharedAir();
            t.due("net()", Edges.net(x, "3ab1bc1x"), -8);
            t.due("net()", Edges.net(x, "3ab1"), 1);
            t.due("c HEARS none", x.station(2, 5), 0);
        });
    }

    private static void netAnew() {
        String anew = "all QUEUES are empty, all is as at first but SETTINGS";
        t.edge("Promise 4", anew, "it had much", () -> {
            SharedAir x = Edges.used();
            t.due("an EXCHANGE goes on", x.count(3), 1);
            t.due("a SPAN RUNS", x.spanOf(2), 1);
            t.due("FRAMES wait", x.count(2) > 0, true);
        });
        t.edge("Promise 4", anew, "all that can be asked is as of a new object with these SETTINGS", () -> {
            SharedAir x = Edges.used();
            int seed = x.setting(12);
            Edges.net(x, "3ab2bc2ac1");
            SharedAir y = new SharedAir();
            y.sets(0, 7);
            y.sets(7, 5);
            y.sets(12, seed);
            Edges.net(y, "3ab2bc2ac1");
            t.due("all of it", Edges.sameButForUndo(x, y), true);
        });
        t.edge("Promise 4", anew, "no debt, no EXCHANGE, no SPAN is left", () -> {
            SharedAir x = Edges.used();
            Edges.net(x, "3ab2bc2ac1");
            t.due("EXCHANGES", x.count(3), 0);
            for (int s = 0; s < 3; s++) {
                t.due("owes", x.station(s, 4), 0);
                t.due("to", x.station(s, 3), -1);
                t.due("SPAN", x.station(s, 1), 0);
                t.due("STILL", x.station(s, 0), 0);
                t.due("FREE", x.station(s, 2), 1);
            }
            t.due("nobody SENDS", x.slots(60), 0);
            t.due("busy()", x.busy(), 0);
            t.dueRow(x, 60, 0);
        });
        t.edge("Promise 4", anew, "STILL and T that were more", () -> {
            SharedAir x = Edges.made("2ab1");
            x.slots(9);
            Edges.net(x, "2ab1");
            t.due("STILL", x.station(0, 0) + x.station(1, 0), 0);
            t.due("T", x.count(1), 0);
            x.offers(0, 0, 1, 1);
            t.due("next()", x.next(), 2);
        });
        t.edge("Promise 4", anew, "COUNTS, WINDOWS, RATES and LUCK that were more", () -> {
            SharedAir x = Edges.atRate(2, "3ab3bc3");
            x.offers(0, 0, 1, 1);
            x.offers(0, 1, 1, 1);
            Edges.drawCounts(x, 0, 0);
            x.slots(9);
            x.draws();
            Edges.net(x, "3ab3bc3");
            t.due("RATE", x.rate(0, 1), 1);
            t.dueRow(x, 0, 3);
            for (int r = 0; r < 4; r++) {
                t.due("FRAMES", x.rank(0, r, 0), 0);
                t.due("COUNT", x.rank(0, r, 1), 0);
                t.due("WINDOW", x.rank(0, r, 2), new int[] {1, 7, 15, 15}[r]);
            }
        });
        t.edge("Promise 4", anew, "SETTINGS stay, SEED too", () -> {
            SharedAir x = Edges.used();
            int seed = x.setting(12);
            Edges.net(x, "1");
            t.due("ASKING", x.setting(0), 7);
            t.due("LEAST WINDOW", x.setting(7), 5);
            t.due("SEED", x.setting(12), seed);
            t.due("WINDOW is the LEAST as it is set", x.rank(0, 0, 2), 5);
        });
        t.edge("Promise 4", anew, "fewer STATIONS, then more again", () -> {
            SharedAir x = Edges.used();
            Edges.net(x, "1");
            t.due("STATIONS", x.count(0), 1);
            t.due("a HEARS none", x.station(0, 5), 0);
            Edges.net(x, "3ac3");
            t.due("b HEARS none", x.station(1, 5), 0);
            t.due("b has none", x.station(1, 6), 0);
            t.due("c's tallies", x.tally(2, 0) + x.tally(2, 3) + x.tally(2, 5), 0);
            t.due("a to c", x.rate(0, 2), 1);
            t.dueRow(x, 0, 3);
        });
    }

    private static void sets() {
        String was = "A SETTING is v: 100 and what it was (of SEED: 0).";
        t.edge("Promise 5", was, "each SETTING", () -> {
            int[] first = {5, 2, 4, 2, 2, 3, 6, 3, 7, 15, 15, 31};
            for (int what = 0; what < 12; what++) {
                SharedAir x = new SharedAir();
                t.due("sets(" + what + ", 1)", x.sets(what, 1), 100 + first[what]);
                t.due("sets(" + what + ", 2)", x.sets(what, 2), 101);
                t.due("setting(" + what + ")", x.setting(what), 2);
            }
        });
        t.edge("Promise 5", was, "SEED: 100, whatever it was", () -> {
            SharedAir x = new SharedAir();
            t.due("of 1", x.sets(12, 7), 100);
            t.due("of 7", x.sets(12, Integer.MIN_VALUE), 100);
            t.due("of MIN", x.sets(12, 0), 100);
        });
        String so = "-2: it is so (not of SEED)";
        t.edge("Promise 5", so, "a SETTING", () -> {
            SharedAir x = new SharedAir();
            t.due("sets(11, 31)", x.sets(11, 31), -2);
            t.due("nothing is kept of it", x.count(4), 0);
            x.sets(11, 63);
            t.due("sets(11, 63)", x.sets(11, 63), -2);
            t.due("what was is not so", x.sets(11, 31), 163);
        });
        t.edge("Promise 5", so, "SEED", () -> {
            SharedAir x = new SharedAir();
            t.due("sets(12, 1)", x.sets(12, 1), 100);
            t.due("it is kept", x.count(4), 1);
        });
        String none = "NONE: another what, v can't be.";
        t.edge("Promise 5", none, "another what", () -> {
            SharedAir x = new SharedAir();
            t.due("sets(-1, 1)", x.sets(-1, 1), -1);
            t.due("sets(13, 1)", x.sets(13, 1), -1);
            t.due("sets(MIN, 1)", x.sets(Integer.MIN_VALUE, 1), -1);
            t.due("sets(MAX, 1)", x.sets(Integer.MAX_VALUE, 1), -1);
        });
        t.edge("Promise 5", none, "v below 1, above the most", () -> {
            SharedAir x = new SharedAir();
            int[] most = {10, 4, 7, 9, 9, 9, 9, 31, 31, 31, 31, 63};
            for (int what = 0; what < 12; what++) {
                t.due("0 of " + what, x.sets(what, 0), -1);
                t.due("-1 of " + what, x.sets(what, -1), -1);
                t.due("MIN of " + what, x.sets(what, Integer.MIN_VALUE), -1);
                t.due("1 more of " + what, x.sets(what, most[what] + 1), -1);
                t.due("MAX of " + what, x.sets(what, Integer.MAX_VALUE), -1);
            }
            t.due("nothing is kept of them", x.count(4), 0);
        });
        t.edge("Promise 5", "(WINDOWS stay as they are.)", "LEAST and GREATEST", () -> {
            SharedAir x = Edges.made("2ab1");
            x.sets(7, 20);
            t.due("below the LEAST", x.rank(0, 0, 2), 3);
            x.sets(7, 1);
            t.due("above the LEAST", x.rank(0, 0, 2), 3);
            x.sets(11, 1);
            t.due("above the GREATEST", x.rank(0, 0, 2), 3);
        });
    }

    private static void setting() {
        String sentence = "A SETTING; NoSuchElementException: another what.";
        t.edge("Promise 6", sentence, "0 and 12 are the first and the last", () -> {
            SharedAir x = new SharedAir();
            t.due("setting(0)", x.setting(0), 5);
            t.due("setting(11)", x.setting(11), 31);
            t.due("setting(12)", x.setting(12), 1);
        });
        int[] others = {-1, 13, Integer.MIN_VALUE, Integer.MAX_VALUE};
        for (int what : others) {
            t.edge("Promise 6", sentence, "what " + what, () -> t.dueThrow("setting", () -> new SharedAir().setting(what)));
        }
        t.edge("Promise 6", sentence, "SEED as the DRAWS left it", () -> {
            SharedAir x = Edges.made("2ab1");
            x.offers(0, 0, 1, 1);
            x.draws();
            t.due("setting(12)", x.setting(12), 1103527590);
        });
    }

    private static void sheetEntries() {
        String entry = "then entry k (of STATION k), if it is above 0, gives one FRAME to the next STATION (0 behind the last "
            + "one), if they HEAR each other, of UNITS that entry modulo 9 and 1";
        t.edge("Promise 7", entry, "an entry of 0, below 0, and 1", () -> {
            SharedAir x = Edges.made("3ab1bc1ac1");
            t.due("sheet", x.sheet(0, 2, 3, -1, 1), 1);
            t.due("a's -1", x.rank(0, 0, 0), 0);
            t.due("b's 0", x.rank(1, 0, 0), 0);
            t.due("c's 1", x.rank(2, 0, 0), 1);
            t.due("its UNITS", x.frame(2, 0, 0, 1), 2);
            t.due("to a, behind the last one", x.frame(2, 0, 0, 0), 0);
        });
        t.edge("Promise 7", entry, "UNITS 1 .. 9", () -> {
            for (int v = 1; v <= 19; v++) {
                SharedAir x = Edges.made("2ab1");
                x.sheet(3, 2, 1, v, 0);
                t.due("UNITS of " + v, x.frame(0, 3, 0, 1), v % 9 + 1);
            }
        });
        t.edge("Promise 7", entry, "they do not HEAR each other", () -> {
            SharedAir x = Edges.made("3ab1ac1");
            t.due("sheet", x.sheet(0, 2, 3, 1, 0), 2);
            t.due("b to c", x.rank(1, 0, 0), 0);
            t.due("c to a", x.rank(2, 0, 0), 1);
        });
        t.edge("Promise 7", entry, "one STATION alone", () -> {
            SharedAir x = Edges.made("1");
            t.due("sheet", x.sheet(0, 2, 1, 1, 0), 0);
        });
        t.edge("Promise 7", entry, "of two, the one is next to the other", () -> {
            SharedAir x = Edges.made("2ab1");
            t.due("sheet", x.sheet(0, 2, 2, 1, 0), 2);
            t.due("a's", x.frame(0, 0, 0, 0), 1);
            t.due("b's", x.frame(1, 0, 0, 0), 0);
        });
        t.edge("Promise 7", entry, "fewer entries than STATIONS, and more", () -> {
            SharedAir x = Edges.made("3ab1bc1ac1");
            t.due("none", x.sheet(0, 2, 0, 1, 0), 0);
            t.due("two", x.sheet(0, 2, 2, 1, 0), 2);
            t.due("c's", x.rank(2, 0, 0), 0);
            t.due("six", x.sheet(0, 2, 6, 1, 0), 3);
            t.due("FRAMES in all", x.count(2), 3);
        });
        String become = "Of QUEUES of a RANK the FRAMES of STATIONS 0, 1, .. become as a sheet tells";
        t.edge("Promise 7", become, "RANKS 0 and 3", () -> {
            SharedAir x = Edges.made("2ab1");
            x.slots(4);
            t.due("RANK 0", x.sheet(0, 2, 2, 3, 0), 2);
            t.due("RANK 3", x.sheet(3, 2, 2, 5, 0), 2);
            t.due("UNITS of RANK 0's", x.frame(1, 0, 0, 1), 4);
            t.due("UNITS of RANK 3's", x.frame(1, 3, 0, 1), 6);
            t.due("never TRIED", x.frame(1, 3, 0, 2), 0);
            t.due("offered in SLOT 4", x.frame(1, 3, 0, 3), 4);
        });
        String emptied = "each STATION's QUEUE of that RANK is emptied";
        t.edge("Promise 7", emptied, "a full one, and of STATIONS without entry", () -> {
            SharedAir x = Edges.made("3ab1bc1ac1");
            Edges.offerMany(x, 8, 0, 1, 1, 5);
            Edges.offerMany(x, 8, 2, 1, 1, 5);
            t.due("sheet", x.sheet(1, 2, 1, 1, 0), 1);
            t.due("a's", x.rank(0, 1, 0), 1);
            t.due("c's", x.rank(2, 1, 0), 0);
        });
        t.edge("Promise 7", emptied, "other RANKS stay, COUNT and WINDOW too", () -> {
            SharedAir x = Edges.made("2ab1");
            x.offers(0, 1, 1, 5);
            x.offers(0, 2, 1, 5);
            x.draws();
            t.due("sheet", x.sheet(1, 2, 0, 1, 0), 0);
            t.due("RANK 1", x.rank(0, 1, 0), 0);
            t.due("RANK 2", x.rank(0, 2, 0), 1);
            t.due("RANK 1's COUNT", x.rank(0, 1, 1), 16838 % 8);
            t.due("RANK 1's WINDOW", x.rank(0, 1, 2), 7);
        });
        String kinds = "bytes (kind 0), shorts (1), ints (2) of n entries f, f + step, .. (as ints; of bytes, shorts the lowest "
            + "bits, with their sign), or a missing one (3): how many FRAMES came.";
        int[] kind = {0, 0, 0, 0, 0, 1, 1, 1, 1, 1, 2, 2, 2, 2, 2};
        int[] value = {127, 128, 255, 256, 257, 32767, 32768, 65535, 65536, 65537, 128, 32768, 65536, Integer.MAX_VALUE, Integer.MIN_VALUE};
        int[] units = {127 % 9 + 1, 0, 0, 0, 2, 32767 % 9 + 1, 0, 0, 0, 2, 128 % 9 + 1, 32768 % 9 + 1, 65536 % 9 + 1,
            Integer.MAX_VALUE % 9 + 1, 0};
        for (int i = 0; i < kind.length; i++) {
            int k = i;
            t.edge("Promise 7", kinds, "kind " + kind[k] + ", entry " + value[k], () -> {
                SharedAir x = Edges.made("2ab1");
                t.due("sheet", x.sheet(0, kind[k], 1, value[k], 0), units[k] > 0 ? 1 : 0);
                t.due("FRAMES", x.rank(0, 0, 0), units[k] > 0 ? 1 : 0);
                if (units[k] > 0) {
                    t.due("UNITS", x.frame(0, 0, 0, 1), units[k]);
                }
            });
        }
        t.edge("Promise 7", kinds, "f and step go round as ints", () -> {
            SharedAir x = Edges.made("3ab1bc1ac1");
            t.due("MAX, MIN, MIN + 1", x.sheet(0, 2, 3, Integer.MAX_VALUE, 1), 1);
            t.due("a's", x.rank(0, 0, 0), 1);
            // MIN, MIN + MAX = -1, -1 + MAX = MAX - 1
            t.due("MIN and MAX", x.sheet(0, 2, 3, Integer.MIN_VALUE, Integer.MAX_VALUE), 1);
            t.due("c's", x.frame(2, 0, 0, 1), (Integer.MAX_VALUE - 1) % 9 + 1);
            // Two times MIN is 0.
            t.due("7 and MIN", x.sheet(0, 2, 3, 7, Integer.MIN_VALUE), 2);
            t.due("b's", x.rank(1, 0, 0), 0);
            t.due("c's 7", x.frame(2, 0, 0, 1), 8);
        });
        t.edge("Promise 7", kinds, "a step below 0", () -> {
            SharedAir x = Edges.made("3ab1bc1ac1");
            t.due("2, 1, 0", x.sheet(0, 0, 3, 2, -1), 2);
            t.due("c's", x.rank(2, 0, 0), 0);
        });
        t.edge("Promise 7", "Nothing is kept of it that could be undone.", "with none, with some", () -> {
            SharedAir x = Edges.made("2ab1");
            x.sheet(0, 2, 2, 1, 0);
            t.due("count(4)", x.count(4), 1);
            t.due("undo() is that of net()", x.undo(), 0);
            t.due("STATIONS", x.count(0), 0);
        });
    }

    private static void sheetRefused() {
        String on = "Refused with -4 while any EXCHANGE goes on.";
        t.edge("Promise 7", on, "from its first SLOT to its last", () -> {
            SharedAir x = Edges.made("3ab1bc1ac1");
            x.offers(0, 0, 1, 1);
            x.slots(2);
            t.due("ahead of it", x.sheet(3, 2, 3, 1, 0), 3);
            x.slots(1);
            t.due("DATA went by", x.sheet(3, 2, 3, 1, 0), -4);
            t.due("another RANK, too", x.sheet(2, 2, 3, 1, 0), -4);
            t.due("missing, too", x.sheet(3, 3, 3, 1, 0), -4);
            t.due("n below 0, too", x.sheet(3, 2, -1, 1, 0), -4);
            t.due("nothing changes", x.count(2), 4);
            x.slots(1);
            t.due("behind it", x.sheet(3, 2, 3, 1, 0), 3);
        });
        String below = "-2: n below 0 (of kinds 0 .. 2; nothing changes)";
        t.edge("Promise 7", below, "kinds 0 .. 2", () -> {
            for (int kind = 0; kind <= 2; kind++) {
                SharedAir x = Edges.made("2ab1");
                x.offers(0, 0, 1, 5);
                t.due("-1", x.sheet(0, kind, -1, 1, 0), -2);
                t.due("MIN", x.sheet(0, kind, Integer.MIN_VALUE, 1, 0), -2);
                t.due("nothing changes", x.rank(0, 0, 0), 1);
                t.due("0 is not", x.sheet(0, kind, 0, 1, 0), 0);
            }
        });
        t.edge("Promise 7", "-3: missing (all are emptied)", "whatever n up to 6", () -> {
            int[] many = {6, 0, -1, Integer.MIN_VALUE};
            for (int n : many) {
                SharedAir x = Edges.made("3ab1bc1ac1");
                x.offers(0, 0, 1, 5);
                x.offers(2, 0, 1, 5);
                x.offers(2, 1, 1, 5);
                t.due("n " + n, x.sheet(0, 3, n, 1, 0), -3);
                t.due("RANK 0's", x.rank(0, 0, 0) + x.rank(1, 0, 0) + x.rank(2, 0, 0), 0);
                t.due("RANK 1's", x.rank(2, 1, 0), 1);
            }
        });
        String none = "NONE: another kind, rank, n above 6 (these first; then -4).";
        t.edge("Promise 7", none, "another kind", () -> {
            SharedAir x = Edges.made("2ab1");
            t.due("-1", x.sheet(0, -1, 1, 1, 0), -1);
            t.due("4", x.sheet(0, 4, 1, 1, 0), -1);
        });
        t.edge("Promise 7", none, "another RANK", () -> {
            SharedAir x = Edges.made("2ab1");
            t.due("-1", x.sheet(-1, 2, 1, 1, 0), -1);
            t.due("4", x.sheet(4, 2, 1, 1, 0), -1);
            t.due("3 is none", x.sheet(3, 2, 1, 1, 0), 1);
        });
        t.edge("Promise 7", none, "n above 6", () -> {
            SharedAir x = Edges.made("2ab1");
            for (int kind = 0; kind <= 3; kind++) {
                t.due("7", x.sheet(0, kind, 7, 1, 0), -1);
                t.due("MAX", x.sheet(0, kind, Integer.MAX_VALUE, 1, 0), -1);
            }
            t.due("6 is not", x.sheet(0, 2, 6, 1, 0), 2);
        });
        t.edge("Promise 7", none, "these first; then -4", () -> {
            SharedAir x = Edges.made("2ab1");
            x.offers(0, 0, 1, 9);
            x.slots(3);
            t.due("kind 4", x.sheet(0, 4, 1, 1, 0), -1);
            t.due("RANK 4", x.sheet(4, 2, 1, 1, 0), -1);
            t.due("n 7", x.sheet(0, 2, 7, 1, 0), -1);
            t.due("then -4", x.sheet(0, 2, 6, 1, 0), -4);
        });
        t.edge("Promise 7", none, "of no STATIONS", () -> {
            SharedAir x = new SharedAir();
            t.due("kind 4", x.sheet(0, 4, 1, 1, 0), -1);
            t.due("n below 0", x.sheet(0, 2, -1, 1, 0), -2);
            t.due("missing", x.sheet(0, 3, 1, 1, 0), -3);
            t.due("none came", x.sheet(0, 2, 1, 1, 0), 0);
        });
    }

    // ---- 8 .. 10: frames, slots

    private static void offers() {
        t.edge("Promise 8", "-2: it has 8", "8 and a ninth", () -> {
            SharedAir x = Edges.made("2ab1");
            for (int n = 1; n <= 8; n++) {
                t.due("FRAME " + n, x.offers(1, 3, 0, 1), n);
            }
            int undone = x.count(4);
            t.due("the ninth", x.offers(1, 3, 0, 1), -2);
            t.due("FRAMES", x.rank(1, 3, 0), 8);
            t.due("nothing is kept of it", x.count(4), undone);
        });
        t.edge("Promise 8", "-2: it has 8", "7, as one was DELIVERED", () -> {
            SharedAir x = Edges.made("2ab1");
            x.sets(1, 1);
            Edges.offerMany(x, 8, 0, 0, 1, 1);
            x.slots(4);
            t.due("one more", x.offers(0, 0, 1, 9), 8);
            t.due("behind the others", x.frame(0, 0, 7, 1), 9);
            t.due("and no more", x.offers(0, 0, 1, 9), -2);
        });
        t.edge("Promise 8", "-3: they do not HEAR each other (asked first)", "full and not HEARD", () -> {
            SharedAir x = Edges.made("3ab1");
            t.due("not HEARD", x.offers(0, 0, 2, 1), -3);
            Edges.offerMany(x, 8, 0, 0, 1, 1);
            t.due("full, not HEARD", x.offers(0, 0, 2, 1), -3);
            t.due("full", x.offers(0, 0, 1, 1), -2);
        });
        String none = "NONE: others, both are one.";
        int[][] others = {{-1, 0, 1, 1}, {3, 0, 1, 1}, {0, -1, 1, 1}, {0, 4, 1, 1}, {0, 0, -1, 1}, {0, 0, 3, 1}, {0, 0, 1, 0},
            {0, 0, 1, 10}, {0, 0, 1, -1}, {6, 0, 1, 1}, {Integer.MIN_VALUE, 0, 1, 1}, {0, Integer.MAX_VALUE, 1, 1},
            {0, 0, Integer.MAX_VALUE, 1}, {0, 0, 1, Integer.MAX_VALUE}};
        for (int[] it : others) {
            t.edge("Promise 8", none, it[0] + ", " + it[1] + ", " + it[2] + ", " + it[3], () -> {
                SharedAir x = Edges.made("3ab1bc1ac1");
                t.due("offers", x.offers(it[0], it[1], it[2], it[3]), -1);
                t.due("FRAMES", x.count(2), 0);
                t.due("nothing is kept of it", x.count(4), 1);
            });
        }
        t.edge("Promise 8", none, "both are one", () -> {
            SharedAir x = Edges.made("3ab1");
            for (int s = 0; s < 3; s++) {
                t.due("offers", x.offers(s, 0, s, 1), -1);
            }
        });
        t.edge("Promise 8", none, "the first and the last of all", () -> {
            SharedAir x = Edges.made("3ac1");
            t.due("RANK 0, 1 UNIT", x.offers(0, 0, 2, 1), 1);
            t.due("RANK 3, 9 UNITS", x.offers(2, 3, 0, 9), 1);
        });
        t.edge("Promise 8", "A FRAME comes behind the QUEUE of a RANK of a STATION: how many it has.", "behind it", () -> {
            SharedAir x = Edges.made("2ab1");
            x.offers(0, 0, 1, 3);
            t.due("two", x.offers(0, 0, 1, 4), 2);
            t.due("the first one", x.frame(0, 0, 0, 1), 3);
            t.due("behind it", x.frame(0, 0, 1, 1), 4);
        });
    }

    private static void slots() {
        String sentence = "n SLOTS (1 .. 60) go by";
        t.edge("Promise 9", sentence, "1 and 60", () -> {
            SharedAir x = Edges.made("2ab1");
            t.due("slots(1)", x.slots(1), 0);
            t.due("T", x.count(1), 1);
            t.due("slots(60)", x.slots(60), 0);
            t.due("T", x.count(1), 61);
        });
        int[] others = {0, 61, -1, Integer.MIN_VALUE, Integer.MAX_VALUE};
        for (int n : others) {
            t.edge("Promise 9", "NONE: another n.", "n " + n, () -> {
                SharedAir x = Edges.made("2ab1");
                x.offers(0, 0, 1, 1);
                t.due("slots", x.slots(n), -1);
                t.due("T", x.count(1), 0);
                t.due("nothing is kept of it", x.count(4), 2);
                t.dueRow(x);
            });
        }
        String told = "FRAMES that are DELIVERED in them; the ROW: those LOST, EXCHANGES that FAIL, RANKS that met INSIDE.";
        t.edge("Promise 9", told, "nothing comes of them", () -> {
            SharedAir x = Edges.made("2ab1");
            t.due("slots(5)", x.slots(5), 0);
            t.dueRow(x, 0, 0, 0);
        });
        t.edge("Promise 9", told, "in them alone", () -> {
            SharedAir x = Edges.made("3ab1bc1");
            x.sets(2, 1);
            x.offers(0, 0, 1, 1);
            x.offers(0, 1, 1, 1);
            x.offers(2, 0, 1, 1);
            t.due("to SLOT 2", x.slots(3), 0);
            t.dueRow(x, 1, 0, 1);
            t.due("SLOT 3", x.slots(1), 0);
            t.dueRow(x, 2, 2, 0);
            t.due("SLOT 4", x.slots(1), 0);
            t.dueRow(x, 0, 0, 0);
        });
        t.edge("Promise 9", told, "the ANSWER is in the last one of them", () -> {
            SharedAir x = Edges.made("2ab1");
            x.offers(0, 0, 1, 1);
            t.due("3", x.ahead(3, 0), 0);
            t.due("4", x.slots(4), 1);
        });
    }

    private static void draws() {
        String sentence = "All COUNTS of RANKS with a QUEUE that is not empty are DRAWN, by STATIONS, then RANKS: how many.";
        t.edge("Promise 10", sentence, "none", () -> {
            SharedAir x = Edges.made("2ab1");
            t.due("draws()", x.draws(), 0);
            t.due("SEED stays", x.setting(12), 1);
        });
        t.edge("Promise 10", sentence, "all 24", () -> {
            SharedAir x = Edges.made("6ab1cd1ef1");
            for (int s = 5; s >= 0; s--) {
                for (int r = 3; r >= 0; r--) {
                    x.offers(s, r, s % 2 == 0 ? s + 1 : s - 1, 1);
                }
            }
            t.due("draws()", x.draws(), 24);
            int seed = 1;
            int[] window = {3, 7, 15, 15};
            for (int s = 0; s < 6; s++) {
                for (int r = 0; r < 4; r++) {
                    seed = seed * 1103515245 + 12345;
                    t.due("COUNT of " + s + ", " + r, x.rank(s, r, 1), (seed >>> 16) % (window[r] + 1));
                }
            }
            t.due("SEED", x.setting(12), seed);
        });
        t.edge("Promise 10", sentence, "one for a QUEUE, not for each FRAME", () -> {
            SharedAir x = Edges.made("2ab1");
            Edges.offerMany(x, 8, 0, 0, 1, 1);
            t.due("draws()", x.draws(), 1);
        });
        t.edge("Promise 10", sentence, "an empty one's stays", () -> {
            SharedAir x = Edges.made("2ab1");
            x.offers(0, 0, 1, 1);
            x.slots(4);
            t.due("COUNT", x.rank(0, 0, 1), 2);
            x.offers(1, 0, 0, 1);
            t.due("draws()", x.draws(), 1);
            t.due("COUNT", x.rank(0, 0, 1), 2);
        });
        t.edge("Promise 10", sentence, "in the midst of an EXCHANGE too", () -> {
            SharedAir x = Edges.made("2ab1");
            x.offers(0, 0, 1, 9);
            x.slots(3);
            t.due("draws()", x.draws(), 1);
            t.due("COUNT", x.rank(0, 0, 1), 16838 % 4);
            t.due("it goes on", x.exchange(0, 4), 1);
            t.due("and comes", x.slots(11), 1);
        });
    }

    // ---- 11 .. 18: what there is

    private static void station() {
        String none = "NoSuchElementException: none such, another what.";
        t.edge("Promise 11", none, "none such", () -> {
            SharedAir x = Edges.made("3ab1");
            t.due("station(2, 0)", x.station(2, 0), 0);
            t.dueThrow("station(3, 0)", () -> x.station(3, 0));
            t.dueThrow("station(-1, 0)", () -> x.station(-1, 0));
            t.dueThrow("station(6, 0)", () -> x.station(6, 0));
            t.dueThrow("station(MAX, 0)", () -> x.station(Integer.MAX_VALUE, 0));
            t.dueThrow("station(MIN, 0)", () -> x.station(Integer.MIN_VALUE, 0));
        });
        t.edge("Promise 11", none, "another what", () -> {
            SharedAir x = Edges.made("3ab1");
            t.due("station(0, 6)", x.station(0, 6), 0);
            t.dueThrow("station(0, 7)", () -> x.station(0, 7));
            t.dueThrow("station(0, -1)", () -> x.station(0, -1));
            t.dueThrow("station(0, MAX)", () -> x.station(0, Integer.MAX_VALUE));
        });
        String owes = "3: to whom it owes (NONE: nobody), 4: what: 1 GRANT, 2 ANSWER, 0 nothing";
        t.edge("Promise 11", owes, "nobody and nothing", () -> {
            SharedAir x = Edges.made("2ab1");
            t.due("3", x.station(1, 3), -1);
            t.due("4", x.station(1, 4), 0);
        });
        t.edge("Promise 11", owes, "to a, that is 0, a GRANT", () -> {
            SharedAir x = Edges.made("2ab1");
            x.offers(0, 0, 1, 5);
            x.slots(3);
            t.due("3", x.station(1, 3), 0);
            t.due("4", x.station(1, 4), 1);
            x.slots(1);
            t.due("3", x.station(1, 3), -1);
            t.due("4", x.station(1, 4), 0);
        });
        t.edge("Promise 11", owes, "to f an ANSWER", () -> {
            SharedAir x = Edges.made("6af1");
            x.offers(5, 0, 0, 1);
            x.slots(3);
            t.due("3", x.station(0, 3), 5);
            t.due("4", x.station(0, 4), 2);
            x.slots(1);
            t.due("3", x.station(0, 3), -1);
            t.due("4", x.station(0, 4), 0);
        });
        t.edge("Promise 11", "2: 1 if it is FREE, else 0", "a SENDER, who owes, another one", () -> {
            SharedAir x = Edges.made("3ab1");
            x.offers(0, 0, 1, 1);
            x.slots(3);
            t.due("a", x.station(0, 2), 0);
            t.due("b", x.station(1, 2), 0);
            t.due("c", x.station(2, 2), 1);
        });
        t.edge("Promise 11", "5: whom it HEARS (bits)", "none, all others", () -> {
            SharedAir x = Edges.made("6fa1fb1fc1fd1fe1");
            t.due("f", x.station(5, 5), 31);
            t.due("e", x.station(4, 5), 32);
            t.due("alone", Edges.made("1").station(0, 5), 0);
        });
        t.edge("Promise 11", "Of a STATION, what 0: STILL, 1: its SPAN", "0, and more", () -> {
            SharedAir x = Edges.made("3ab1ac1");
            t.due("STILL", x.station(2, 0), 0);
            t.due("SPAN", x.station(2, 1), 0);
            x.offers(0, 0, 1, 1);
            x.slots(2);
            t.due("STILL", x.station(2, 0), 2);
            x.slots(1);
            t.due("STILL", x.station(2, 0), 0);
            t.due("SPAN", x.station(2, 1), 4);
            x.slots(60);
            t.due("a SPAN that is over stays", x.station(2, 1), 4);
        });
        t.edge("Promise 11", "6: FRAMES that wait in all.", "of all RANKS, those of an EXCHANGE too", () -> {
            SharedAir x = Edges.made("2ab1");
            for (int r = 0; r < 4; r++) {
                Edges.offerMany(x, 8, 0, r, 1, 1);
            }
            t.due("32", x.station(0, 6), 32);
            t.due("b's", x.station(1, 6), 0);
            x.slots(3);
            t.due("while two are SENT", x.station(0, 6), 32);
        });
    }

    private static void rank() {
        String none = "NoSuchElementException: none such, another what.";
        t.edge("Promise 12", none, "none such", () -> {
            SharedAir x = Edges.made("2ab1");
            t.due("rank(1, 3, 0)", x.rank(1, 3, 0), 0);
            t.dueThrow("rank(2, 0, 0)", () -> x.rank(2, 0, 0));
            t.dueThrow("rank(-1, 0, 0)", () -> x.rank(-1, 0, 0));
            t.dueThrow("rank(0, 4, 0)", () -> x.rank(0, 4, 0));
            t.dueThrow("rank(0, -1, 0)", () -> x.rank(0, -1, 0));
            t.dueThrow("rank(MAX, MAX, 0)", () -> x.rank(Integer.MAX_VALUE, Integer.MAX_VALUE, 0));
        });
        t.edge("Promise 12", none, "another what", () -> {
            SharedAir x = Edges.made("2ab1");
            t.due("rank(0, 0, 3)", x.rank(0, 0, 3), 0);
            t.dueThrow("rank(0, 0, 4)", () -> x.rank(0, 0, 4));
            t.dueThrow("rank(0, 0, -1)", () -> x.rank(0, 0, -1));
        });
        String ready = "3: 1 if it would be READY in (a) of the next SLOT by COUNT, STILL and QUEUE, else 0.";
        t.edge("Promise 12", ready, "by QUEUE", () -> {
            SharedAir x = Edges.made("2ab1");
            x.slots(9);
            t.due("empty", x.rank(0, 0, 3), 0);
            x.offers(0, 0, 1, 1);
            t.due("one FRAME", x.rank(0, 0, 3), 1);
        });
        t.edge("Promise 12", ready, "by COUNT", () -> {
            SharedAir x = Edges.made("2ab1");
            x.slots(9);
            x.offers(0, 0, 1, 1);
            x.draws();
            t.due("COUNT 2", x.rank(0, 0, 3), 0);
            x.slots(1);
            t.due("COUNT 1", x.rank(0, 0, 3), 0);
            x.slots(1);
            t.due("COUNT 0", x.rank(0, 0, 3), 1);
        });
        t.edge("Promise 12", ready, "by STILL", () -> {
            SharedAir x = Edges.made("2ab1");
            x.offers(0, 3, 1, 1);
            x.slots(5);
            t.due("STILL 5, WAIT 6", x.rank(0, 3, 3), 0);
            x.slots(1);
            t.due("STILL 6", x.rank(0, 3, 3), 1);
            x.sets(6, 7);
            t.due("WAIT 7", x.rank(0, 3, 3), 0);
        });
        t.edge("Promise 12", "what 0: FRAMES, 1: COUNT, 2: WINDOW", "0 and 8 FRAMES", () -> {
            SharedAir x = Edges.made("2ab1");
            t.due("none", x.rank(0, 2, 0), 0);
            Edges.offerMany(x, 8, 0, 2, 1, 1);
            t.due("8", x.rank(0, 2, 0), 8);
            t.due("COUNT", x.rank(0, 2, 1), 0);
            t.due("WINDOW", x.rank(0, 2, 2), 15);
        });
    }

    private static void frame() {
        String none = "NoSuchElementException: none such, another what.";
        t.edge("Promise 13", none, "none such", () -> {
            SharedAir x = Edges.made("2ab1");
            t.dueThrow("of an empty QUEUE", () -> x.frame(0, 0, 0, 0));
            Edges.offerMany(x, 8, 0, 0, 1, 3);
            t.due("frame(0, 0, 7, 1)", x.frame(0, 0, 7, 1), 3);
            t.dueThrow("frame(0, 0, 8, 1)", () -> x.frame(0, 0, 8, 1));
            t.dueThrow("frame(0, 0, -1, 1)", () -> x.frame(0, 0, -1, 1));
            t.dueThrow("frame(0, 0, MAX, 1)", () -> x.frame(0, 0, Integer.MAX_VALUE, 1));
            t.dueThrow("frame(2, 0, 0, 1)", () -> x.frame(2, 0, 0, 1));
            t.dueThrow("frame(-1, 0, 0, 1)", () -> x.frame(-1, 0, 0, 1));
            t.dueThrow("frame(0, 4, 0, 1)", () -> x.frame(0, 4, 0, 1));
            t.dueThrow("frame(0, -1, 0, 1)", () -> x.frame(0, -1, 0, 1));
        });
        t.edge("Promise 13", none, "one that has left", () -> {
            SharedAir x = Edges.made("2ab1");
            x.offers(0, 0, 1, 1);
            x.slots(4);
            t.dueThrow("frame(0, 0, 0, 0)", () -> x.frame(0, 0, 0, 0));
        });
        t.edge("Promise 13", none, "another what", () -> {
            SharedAir x = Edges.made("2ab1");
            x.offers(0, 0, 1, 1);
            t.due("frame(0, 0, 0, 3)", x.frame(0, 0, 0, 3), 0);
            t.dueThrow("frame(0, 0, 0, 4)", () -> x.frame(0, 0, 0, 4));
            t.dueThrow("frame(0, 0, 0, 5)", () -> x.frame(0, 0, 0, 5));
            t.dueThrow("frame(0, 0, 0, -1)", () -> x.frame(0, 0, 0, -1));
        });
        t.edge("Promise 13", "what 0: to whom, 1: UNITS, 2: how often it was TRIED", "the least and the most of them", () -> {
            SharedAir x = Edges.made("6af1fb1");
            x.offers(5, 0, 0, 1);
            x.offers(0, 3, 5, 9);
            t.due("to a", x.frame(5, 0, 0, 0), 0);
            t.due("1 UNIT", x.frame(5, 0, 0, 1), 1);
            t.due("TRIED", x.frame(5, 0, 0, 2), 0);
            t.due("to f", x.frame(0, 3, 0, 0), 5);
            t.due("9 UNITS", x.frame(0, 3, 0, 1), 9);
        });
        t.edge("Promise 13", "3: T as it was offered.", "0, and later", () -> {
            SharedAir x = Edges.made("2ab1");
            x.offers(0, 3, 1, 1);
            x.slots(1);
            x.offers(0, 3, 1, 1);
            t.due("the first one", x.frame(0, 3, 0, 3), 0);
            t.due("the other one", x.frame(0, 3, 1, 3), 1);
        });
    }

    private static void exchange() {
        String none = "NONE: it is in none, others.";
        t.edge("Promise 14", none, "in none", () -> {
            SharedAir x = Edges.made("2ab1");
            x.offers(0, 0, 1, 1);
            x.slots(2);
            for (int what = 0; what <= 6; what++) {
                t.due("exchange(0, " + what + ")", x.exchange(0, what), -1);
            }
            x.slots(1);
            t.due("b is no SENDER", x.exchange(1, 0), -1);
            x.slots(1);
            t.due("behind it", x.exchange(0, 0), -1);
        });
        t.edge("Promise 14", none, "another what", () -> {
            SharedAir x = Edges.made("2ab1");
            x.offers(0, 0, 1, 1);
            x.slots(3);
            t.due("exchange(0, 6)", x.exchange(0, 6), 1);
            t.due("exchange(0, 7)", x.exchange(0, 7), -1);
            t.due("exchange(0, -1)", x.exchange(0, -1), -1);
        });
        t.edge("Promise 14", none, "another STATION", () -> {
            SharedAir x = Edges.made("2ab1");
            t.due("exchange(2, 0)", x.exchange(2, 0), -1);
            t.due("exchange(6, 0)", x.exchange(6, 0), -1);
            t.due("exchange(-1, 0)", x.exchange(-1, 0), -1);
            t.due("exchange(MAX, 0)", x.exchange(Integer.MAX_VALUE, 0), -1);
        });
        String step = "4: what the next SLOT is for: 0 ASK, 1 GRANT, 2 DATA, 3 ANSWER";
        t.edge("Promise 14", step, "D is 1: its ANSWER is next at once", () -> {
            SharedAir x = Edges.made("2ab1");
            x.offers(0, 0, 1, 1);
            x.slots(3);
            t.due("exchange(0, 4)", x.exchange(0, 4), 3);
        });
        t.edge("Promise 14", step, "D is 2: its last PLACE is next", () -> {
            SharedAir x = Edges.made("2ab1");
            x.offers(0, 0, 1, 2);
            x.slots(3);
            t.due("exchange(0, 4)", x.exchange(0, 4), 2);
            t.due("exchange(0, 5)", x.exchange(0, 5), 1);
        });
        t.edge("Promise 14", step, "though nobody will ANSWER", () -> {
            SharedAir x = Edges.made("3ab1bc1");
            x.offers(0, 0, 1, 1);
            x.offers(2, 0, 1, 1);
            x.slots(3);
            t.due("exchange(0, 4)", x.exchange(0, 4), 3);
            t.due("exchange(2, 4)", x.exchange(2, 4), 3);
        });
        String left = "5: SLOTS of that left (1 but for DATA)";
        t.edge("Promise 14", left, "of ASK, GRANT, DATA, ANSWER", () -> {
            SharedAir x = Edges.made("2ab1");
            x.offers(0, 0, 1, 5);
            x.slots(3);
            t.due("GRANT", x.exchange(0, 4) * 10 + x.exchange(0, 5), 11);
            for (int more = 5; more >= 1; more--) {
                x.slots(1);
                t.due("DATA", x.exchange(0, 4) * 10 + x.exchange(0, 5), 20 + more);
            }
            x.slots(1);
            t.due("ANSWER", x.exchange(0, 4) * 10 + x.exchange(0, 5), 31);
        });
        String whole = "6: FRAMES that are WHOLE so far of those whose PLACES went by (bits)";
        t.edge("Promise 14", whole, "none ahead of a FRAME's last PLACE, all four at last", () -> {
            SharedAir x = new SharedAir();
            x.sets(1, 4);
            x.sets(0, 10);
            Edges.net(x, "2ab1");
            Edges.offerMany(x, 4, 0, 0, 1, 2);
            x.slots(3);
            int[] due = {0, 1, 1, 3, 3, 7, 7, 15};
            for (int place = 0; place < 8; place++) {
                t.due("behind PLACE " + place, x.exchange(0, 6), due[place]);
                x.slots(1);
            }
        });
        t.edge("Promise 14", "2: FRAMES, 3: D", "1 and 1, 4 and 36", () -> {
            SharedAir x = Edges.made("2ab1");
            x.offers(0, 3, 1, 1);
            x.slots(7);
            t.due("with whom", x.exchange(0, 0), 1);
            t.due("RANK", x.exchange(0, 1), 3);
            t.due("FRAMES", x.exchange(0, 2), 1);
            t.due("D", x.exchange(0, 3), 1);
            SharedAir y = new SharedAir();
            y.sets(1, 4);
            Edges.net(y, "2ab1");
            Edges.offerMany(y, 8, 1, 0, 0, 9);
            y.slots(3);
            t.due("with whom", y.exchange(1, 0), 0);
            t.due("FRAMES", y.exchange(1, 2), 4);
            t.due("D", y.exchange(1, 3), 36);
        });
    }

    private static void sent() {
        String none = "-2: there was none (since net()).";
        t.edge("Promise 15", none, "a new object", () -> t.due("sent()", new SharedAir().sent(), -2));
        t.edge("Promise 15", none, "behind net()", () -> {
            SharedAir x = Edges.made("2ab1");
            t.due("sent()", x.sent(), -2);
            x.offers(0, 0, 1, 1);
            x.slots(3);
            t.due("a", x.sent(), 1);
            Edges.net(x, "2ab1");
            t.due("anew", x.sent(), -2);
            x.slots(1);
            t.due("nobody", x.sent(), 0);
        });
        t.edge("Promise 15", none, "net() that is refused", () -> {
            SharedAir x = Edges.made("2ab1");
            x.slots(1);
            Edges.net(x, "9");
            t.due("sent()", x.sent(), 0);
        });
        String told = "Who SENT in the latest SLOT (bits); the ROW: who was CLEAR for somebody (bits), whose SPAN RAN in it (bits).";
        t.edge("Promise 15", told, "a's SPAN, f's SPAN", () -> {
            SharedAir x = Edges.made("3ab1bc1ac1");
            x.offers(2, 0, 1, 1);
            x.slots(4);
            t.due("b ANSWERS", x.sent(), 2);
            t.dueRow(x, 5, 1);
            SharedAir y = Edges.made("6ab1af1");
            y.offers(0, 0, 1, 1);
            y.slots(4);
            t.due("b ANSWERS", y.sent(), 2);
            t.dueRow(y, 1, 32);
        });
        t.edge("Promise 15", told, "the latest one alone", () -> {
            SharedAir x = Edges.made("3ab1ac1");
            x.offers(0, 0, 1, 1);
            x.slots(3);
            t.due("DATA", x.sent(), 1);
            t.dueRow(x, 6, 0);
            x.slots(1);
            t.due("ANSWER", x.sent(), 2);
            t.dueRow(x, 1, 4);
            x.slots(1);
            t.due("nothing", x.sent(), 0);
            t.dueRow(x, 0, 0);
        });
    }

    private static void spanOf() {
        String none = "-2: it does not RUN in the next SLOT; NONE: no such STATION.";
        t.edge("Promise 16", none, "its last SLOT, and behind it", () -> {
            SharedAir x = Edges.made("3ab1ac1");
            x.offers(0, 0, 1, 1);
            x.slots(2);
            t.due("ahead of it", x.spanOf(2), -2);
            x.slots(1);
            t.due("one SLOT", x.spanOf(2), 0);
            t.dueRow(x, 2, 1);
            x.slots(1);
            t.due("behind it", x.spanOf(2), -2);
            t.due("the SPAN stays", x.station(2, 1), 4);
        });
        t.edge("Promise 16", none, "no such STATION", () -> {
            SharedAir x = Edges.made("3ab1");
            t.due("spanOf(2)", x.spanOf(2), -2);
            t.due("spanOf(3)", x.spanOf(3), -1);
            t.due("spanOf(-1)", x.spanOf(-1), -1);
            t.due("spanOf(MAX)", x.spanOf(Integer.MAX_VALUE), -1);
        });
        String whose = "Whose EXCHANGE (the SENDER) made the SPAN of a STATION what it is: the SENDER";
        t.edge("Promise 16", whose, "of a, that is 0, and of f", () -> {
            SharedAir x = Edges.made("6ab1af1");
            x.offers(0, 0, 1, 1);
            x.slots(3);
            t.due("f's", x.spanOf(5), 0);
            SharedAir y = Edges.made("6fb1af1");
            y.offers(5, 0, 1, 1);
            y.slots(3);
            t.due("a's", y.spanOf(0), 5);
        });
        t.edge("Promise 16", whose, "the later one, if it is more", () -> {
            // c HEARS a's last PLACE in SLOT 2 (SPAN 4) and d's ASK in SLOT 5 (SPAN 13).
            SharedAir x = Edges.made("5ab1ac1cd1de1");
            x.offers(0, 0, 1, 1);
            x.slots(5);
            x.offers(3, 0, 4, 5);
            x.slots(1);
            t.due("c's", x.spanOf(2), 3);
            t.dueRow(x, 0, 7);
        });
        String step = "in which step it heard of that: 0 ASK, 1 GRANT, 2 DATA; how many SLOTS it RUNS yet, from the next one on.";
        t.edge("Promise 16", step, "ASK", () -> {
            SharedAir x = Edges.made("3ab1ac1");
            x.offers(0, 0, 1, 5);
            x.slots(3);
            t.due("spanOf(2)", x.spanOf(2), 0);
            t.dueRow(x, 0, 7);
        });
        t.edge("Promise 16", step, "GRANT: the SENDER is who ASKED", () -> {
            SharedAir x = Edges.made("3ab1bc1");
            x.offers(0, 0, 1, 5);
            x.slots(4);
            t.due("spanOf(2)", x.spanOf(2), 0);
            t.dueRow(x, 1, 6);
            SharedAir y = Edges.made("3ab1bc1");
            y.offers(2, 0, 1, 5);
            y.slots(4);
            t.due("spanOf(0)", y.spanOf(0), 2);
            t.dueRow(y, 1, 6);
        });
        t.edge("Promise 16", step, "DATA", () -> {
            SharedAir x = Edges.made("3bc1ac1");
            x.offers(2, 0, 1, 4);
            x.slots(6);
            t.due("spanOf(0)", x.spanOf(0), 2);
            t.dueRow(x, 2, 1);
        });
    }

    private static void rate() {
        String none = "-2: they do not HEAR each other; NONE: others, both are one.";
        t.edge("Promise 17", none, "not HEARD, both ways", () -> {
            SharedAir x = Edges.made("3ab1");
            t.due("rate(0, 2)", x.rate(0, 2), -2);
            t.due("rate(2, 0)", x.rate(2, 0), -2);
        });
        t.edge("Promise 17", none, "both are one", () -> {
            SharedAir x = Edges.made("3ab1");
            t.due("rate(0, 0)", x.rate(0, 0), -1);
            t.due("rate(2, 2)", x.rate(2, 2), -1);
        });
        t.edge("Promise 17", none, "others", () -> {
            SharedAir x = Edges.made("3ab1");
            t.due("rate(3, 0)", x.rate(3, 0), -1);
            t.due("rate(0, 3)", x.rate(0, 3), -1);
            t.due("rate(-1, 0)", x.rate(-1, 0), -1);
            t.due("rate(0, -1)", x.rate(0, -1), -1);
            t.due("rate(3, 3)", x.rate(3, 3), -1);
            t.due("rate(6, 7)", x.rate(6, 7), -1);
        });
        t.edge("Promise 17", "RATE from a STATION to another one; the ROW: LUCK, QUALITY.", "of b to a", () -> {
            SharedAir x = Edges.made("2ab3");
            x.offers(1, 0, 0, 1);
            x.slots(4);
            t.due("rate(1, 0)", x.rate(1, 0), 1);
            t.dueRow(x, 1, 3);
            t.due("rate(0, 1)", x.rate(0, 1), 1);
            t.dueRow(x, 0, 3);
        });
    }

    private static void hidden() {
        String sentence = "Pairs of STATIONS that do not HEAR each other, but that a third one HEARS both: how many; the ROW: of "
            + "each pair, in order, 6 times the lesser and the other.";
        t.edge("Promise 18", sentence, "two STATIONS", () -> t.due("hidden()", Edges.made("2").hidden(), 0));
        t.edge("Promise 18", sentence, "a third one HEARS but one", () -> t.due("hidden()", Edges.made("3ab1").hidden(), 0));
        t.edge("Promise 18", sentence, "a third one HEARS both", () -> {
            SharedAir x = Edges.made("3ab1bc1");
            t.due("hidden()", x.hidden(), 1);
            t.dueRow(x, 2);
        });
        t.edge("Promise 18", sentence, "they HEAR each other", () -> t.due("hidden()", Edges.made("3ab1bc1ac1").hidden(), 0));
        t.edge("Promise 18", sentence, "two third ones: one pair", () -> {
            SharedAir x = Edges.made("4ac1bc1ad1bd1");
            t.due("hidden()", x.hidden(), 2);
            t.dueRow(x, 1, 15);
        });
        t.edge("Promise 18", sentence, "two that HEAR none of a third one", () -> {
            SharedAir x = Edges.made("4ab1cd1");
            t.due("hidden()", x.hidden(), 0);
        });
        t.edge("Promise 18", sentence, "the most, in order", () -> {
            SharedAir x = Edges.made("6af1bf1cf1df1ef1");
            t.due("hidden()", x.hidden(), 10);
            t.dueRow(x, 1, 2, 3, 4, 8, 9, 10, 15, 16, 22);
        });
        t.edge("Promise 18", sentence, "the last pair is e and f", () -> {
            SharedAir x = Edges.made("6ae1af1");
            t.due("hidden()", x.hidden(), 1);
            t.dueRow(x, 29);
        });
    }
}
