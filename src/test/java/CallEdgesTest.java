import java.util.function.Supplier;
import java.util.function.ToLongFunction;

/**
 * "Promise 1" to "Promise 22", sentence by sentence: the last number that is as told, the first that is not, and,
 * behind each call that is refused, that nothing has changed.
 */
public final class CallEdgesTest {
    private static final Checks CHECKS = new Checks();
    private static final int MIN = Integer.MIN_VALUE;
    private static final int MAX = Integer.MAX_VALUE;
    private static final int BLANKS = 0x20202020;
    private static final String TWO = "works 2;station 3 0;station 5 0;";
    private static final String PAIR = "works 3;station 2 1;station 4 2;loop 1 1 2;run 1 2;run 2 1;";

    public static void main(String[] args) {
        newObject();
        feedHighestFirst();
        feedTo440();
        endFirstBytes();
        endRefused();
        textEmptiesTheTape();
        textEmpty();
        textNothingCanBeUndone();
        textLines();
        textFault();
        faultLatest();
        nowEach();
        nowLeads();
        nowUndoAndTape();
        nowAnother();
        stationEach();
        stationThrows();
        waitsByNumber();
        loopEach();
        nextTo999();
        whenTo200();
        whenAnother();
        paceAnother();
        boundAnother();
        needsAbove20();
        needsRefused();
        leastNone();
        leastRefused();
        longerAnother();
        longestLeast();
        longestNone();
        passTo999();
        passTheLastMinute();
        passTo99999();
        stepNext();
        stepTo99999();
        cardsTo20();
        cardsFewer();
        cardsFreeThen();
        cardsRefused();
        anew();
        undoEach();
        undoEight();
        undoNone();
        noWorks();
        the512thCall();
        for (int promise = 1; promise <= 22; promise++) {
            CHECKS.isQuoted("Promise " + promise);
        }
        CHECKS.close();
    }

    private static void sentence(int promise, String quote) {
        CHECKS.sentence("Promise " + promise, quote);
    }

    private static void due(String call, long got, long want) {
        CHECKS.due(call, got, want);
    }

    private static void due(String call, boolean got, boolean want) {
        CHECKS.due(call, got, want);
    }

    /** A works in the midst of it: PARTS wait, cards were taken, three acts can be undone, and a text lies on the tape. */
    private static CardLoops goingOn() {
        CardLoops x = Checks.works(PAIR);
        x.pass(9);
        x.cards(0, 4);
        x.step();
        Checks.put(x, TWO);
        return x;
    }

    private static CardLoops empty() {
        return new CardLoops();
    }

    /** At TIME 99900, with eight acts that can be undone. */
    private static CardLoops late(String text) {
        CardLoops x = Checks.works(text);
        for (int i = 0; i < 100; i++) {
            x.pass(999);
        }
        return x;
    }

    private static void refused(String call, Supplier<CardLoops> made, ToLongFunction<CardLoops> refusal, long want) {
        Twins.refused(CHECKS, call, made, refusal, want);
    }

    private static void refused(String call, ToLongFunction<CardLoops> refusal, long want) {
        refused(call, CallEdgesTest::goingOn, refusal, want);
    }

    private static void newObject() {
        sentence(1, "No works: no STATIONS, no LOOPS; an empty tape.");
        CardLoops x = empty();
        due("STATIONS", x.now(0), 0);
        due("LOOPS", x.now(1), 0);
        due("runs", x.now(2), 0);
        due("TIME", x.now(3), 0);
        due("OUT", x.now(4), 0);
        due("on their way", x.now(5), 0);
        due("LEAD", x.now(6), -1);
        due("longest LEAD", x.now(7), -1);
        due("can be undone", x.now(8), 0);
        due("tape", x.now(9), 0);
        due("end(1)", x.end(1), false);
        due("LOOP 0", x.loop(0, 2), -1);
        due("STATION 0", Twins.throwsNoSuch(x, 0, 0), 1);
        CardLoops other = Checks.works(TWO);
        due("objects have nothing to do with one another", empty().now(0), 0);
        due("as the other tells", other.now(0), 2);
    }

    private static void feedHighestFirst() {
        sentence(2, "Twenty bytes come behind the tape, of each number the highest first: how many it has");
        CardLoops x = empty();
        due("20", x.feed(0x776f726b, 0x7320323b, 0x73746174, 0x696f6e20, 0x3320303b), 20);
        due("behind them 40", x.feed(0x73746174, 0x696f6e20, 0x3520303b, BLANKS, BLANKS), 40);
        due("text", x.text(), 3);
        due("TIME of STATION 1", x.station(1, 0), 5);
        for (int at = 0; at < 20; at++) {
            CardLoops y = empty();
            int[] row = {BLANKS, BLANKS, BLANKS, BLANKS, BLANKS};
            row[at / 4] ^= 0xdf << 24 - at % 4 * 8;
            due("byte " + at + " is 255", y.feed(row[0], row[1], row[2], row[3], row[4]), 20);
            due("its place", y.text(), -1 - at);
        }
        CardLoops between = empty();
        between.feed(BLANKS, BLANKS, BLANKS, BLANKS, BLANKS);
        between.end(13);
        due("behind 13", between.feed(-1, BLANKS, BLANKS, BLANKS, BLANKS), 33);
        due("its place", between.text(), -14);
    }

    private static CardLoops withTape(int bytes) {
        CardLoops x = Checks.works(PAIR);
        x.pass(9);
        Checks.put(x, TWO);
        for (int i = 0; i < 20; i++) {
            x.feed(BLANKS, BLANKS, BLANKS, BLANKS, BLANKS);
        }
        while (x.now(9) + 20 <= bytes) {
            x.feed(BLANKS, BLANKS, BLANKS, BLANKS, BLANKS);
        }
        if (x.now(9) < bytes) {
            x.end(bytes - 20);
            x.feed(BLANKS, BLANKS, BLANKS, BLANKS, BLANKS);
        }
        x.end(bytes);
        return x;
    }

    private static void feedTo440() {
        sentence(2, "NONE, and none come, if it would have more than 440");
        CardLoops x = empty();
        for (int i = 1; i <= 22; i++) {
            due("feed", x.feed(BLANKS, BLANKS, BLANKS, BLANKS, BLANKS), 20 * i);
        }
        due("440", x.now(9), 440);
        due("460 would be", x.feed(-1, -1, -1, -1, -1), -1);
        due("none come", x.now(9), 440);
        CardLoops y = withTape(420);
        due("from 420 to 440", y.feed(-1, -1, -1, -1, -1), 440);
        refused("from 421 to 441", () -> withTape(421), z -> z.feed(-1, -1, -1, -1, -1), -1);
        refused("from 440 to 460", () -> withTape(440), z -> z.feed(-1, -1, -1, -1, -1), -1);
        CardLoops again = withTape(440);
        again.text();
        due("behind a text there is room", again.feed(-1, -1, -1, -1, -1), 20);
    }

    private static void endFirstBytes() {
        sentence(3, "The tape has its first n bytes alone: true");
        CardLoops x = empty();
        due("end(0) of nothing", x.end(0), true);
        Checks.put(x, TWO + "run 0 1;");
        due("all of it", x.end(40), true);
        due("40", x.now(9), 40);
        due("less", x.end(32), true);
        due("32", x.now(9), 32);
        due("the first ones stay", x.text(), 3);
        Checks.put(x, TWO);
        due("none of it", x.end(0), true);
        due("0", x.now(9), 0);
        due("nothing is there", x.text(), 0);
        Checks.put(x, "works 2;station 1 60;");
        due("within a NUMBER", x.end(19), true);
        due("what was cut off is not read", x.text(), -20);
        CardLoops full = withTape(440);
        due("end(440)", full.end(440), true);
    }

    private static void endRefused() {
        sentence(3, "false, if it has not so many, or n is below 0");
        due("as many as it has", goingOn().end(32), true);
        refused("one more", x -> x.end(33) ? 1 : 0, 0);
        refused("below 0", x -> x.end(-1) ? 1 : 0, 0);
        refused("far more", x -> x.end(MAX) ? 1 : 0, 0);
        refused("far below", x -> x.end(MIN) ? 1 : 0, 0);
        refused("one of nothing", CallEdgesTest::empty, x -> x.end(1) ? 1 : 0, 0);
        refused("441", () -> withTape(440), x -> x.end(441) ? 1 : 0, 0);
        CardLoops x = goingOn();
        due("fewer", x.end(5), true);
        due("what was cut off is gone", x.end(6), false);
    }

    private static void textEmptiesTheTape() {
        sentence(4, "The tape (empty then, even with a FAULT) is a TEXT");
        CardLoops x = goingOn();
        due("text", x.text(), 3);
        due("tape", x.now(9), 0);
        Checks.put(x, "works 1;station 1 61;");
        due("FAULT", x.text(), -19);
        due("tape behind it", x.now(9), 0);
        due("the next text is empty", x.text(), 0);
        due("so there is no works", x.now(0), 0);
    }

    private static void textEmpty() {
        sentence(4, "(an empty one: no works; nothing can be undone)");
        String[] texts = {"", " ", "\n", Checks.times(" \n", 200)};
        for (String text : texts) {
            CardLoops x = goingOn();
            x.end(0);
            due("LINES", Checks.tell(x, text), 0);
            due("fault", x.fault(), 0);
            due("can be undone", x.now(8), 0);
            due("undo", x.undo(), -1);
            CHECKS.same("as a new object", Twins.picture(x), Twins.picture(empty()));
        }
    }

    private static void textNothingCanBeUndone() {
        sentence(4, "nothing can be undone");
        CardLoops x = goingOn();
        due("could be undone", x.now(8), 3);
        due("PACE ahead of it", x.pace(1), 16);
        due("text", x.text(), 3);
        due("can be undone", x.now(8), 0);
        due("undo", x.undo(), -1);
        CHECKS.same("all is as with a new object", Twins.picture(x), Twins.picture(Checks.works(TWO)));
    }

    private static void textLines() {
        sentence(4, "how many LINES; -1 less the place of a FAULT");
        String most = "works 1;" + Checks.times("station 1 0;", 6) + Checks.times("loop 0 0 1;", 4) + Checks.times("run 0 1;", 6);
        due("none", Checks.tell(empty(), ""), 0);
        due("the fewest", Checks.tell(empty(), "works 1;station 1 0;"), 2);
        due("the most", Checks.tell(empty(), most), 17);
        due("a FAULT at 0", Checks.tell(empty(), "?"), -1);
        due("a FAULT at 1", Checks.tell(empty(), " ?"), -2);
        due("a FAULT at 400", Checks.tell(empty(), Checks.times(" ", 401)), -401);
    }

    private static CardLoops goingOnWith(String tape) {
        CardLoops x = goingOn();
        x.end(0);
        Checks.put(x, tape);
        return x;
    }

    private static void textFault() {
        sentence(4, "-1 less the place of a FAULT: all stays");
        String[] texts = {"?", "works 0;", "works 9;station 9 9;loop 0 0 9;run 3 9;station 9 99;", "works 9;station 9 9",
            "works 9;run 2 2;", "works 1;" + Checks.times("station 1 0;", 7), Checks.times(" ", 401)};
        int[] places = {0, 6, 49, 19, 16, 80, 400};
        int[] kinds = {1, 2, 2, 1, 1, 3, 1};
        for (int i = 0; i < texts.length; i++) {
            CardLoops x = goingOnWith(texts[i]);
            due("text", x.text(), -1 - places[i]);
            due("fault", x.fault(), kinds[i]);
            CardLoops y = goingOnWith("");
            CHECKS.same("all stays", Twins.picture(x), Twins.picture(y));
            for (int acts = 2; acts >= 0; acts--) {
                due("undo", x.undo(), acts);
                y.undo();
                CHECKS.same("as it was", Twins.glance(x), Twins.glance(y));
            }
        }
        CardLoops none = empty();
        due("without a works", Checks.tell(none, "works 0;"), -7);
        CHECKS.same("there is none yet", Twins.picture(none), Twins.picture(empty()));
    }

    private static void faultLatest() {
        sentence(5, "The kind of the FAULT of the latest text(); 0 without one and ahead of any.");
        CardLoops x = empty();
        due("ahead of any", x.fault(), 0);
        Checks.put(x, "works 0;");
        due("ahead of its text()", x.fault(), 0);
        x.text();
        due("2", x.fault(), 2);
        due("2 again", x.fault(), 2);
        Checks.tell(x, "?");
        due("1", x.fault(), 1);
        Checks.tell(x, "works 1;" + Checks.times("run 0 1;", 7));
        due("3", x.fault(), 3);
        Checks.put(x, TWO);
        due("until the next text()", x.fault(), 3);
        x.text();
        due("without one", x.fault(), 0);
        Checks.tell(x, "?");
        x.pass(1);
        x.undo();
        due("acts do not matter", x.fault(), 1);
        due("an empty text", x.text(), 0);
        due("is without one", x.fault(), 0);
    }

    private static void nowIs(CardLoops x, int... want) {
        for (int what = 0; what < want.length; what++) {
            due("now(" + what + ")", x.now(what), want[what]);
        }
    }

    private static void nowEach() {
        sentence(6, "0 STATIONS, 1 LOOPS (LOOP 0, too), 2 runs, 3 TIME, 4 PARTS that are OUT, 5 PARTS on their way");
        nowIs(empty(), 0, 0, 0, 0, 0, 0);
        nowIs(Checks.works("works 1;station 1 0;"), 1, 1, 0, 0, 0, 1);
        nowIs(Checks.works("works 1;station 1 0;run 1 20;run 1 20;"), 1, 1, 2, 0, 0, 1);
        String most = "works 20;" + Checks.times("station 1 0;", 6) + Checks.times("loop 0 0 1;", 4) + Checks.times("run 0 1;", 6);
        CardLoops x = Checks.works(most);
        nowIs(x, 6, 5, 6, 0, 0, 1);
        x.pass(5);
        nowIs(x, 6, 5, 6, 5, 0, 6);
        x.pass(1);
        nowIs(x, 6, 5, 6, 6, 1, 6);
        CardLoops full = Checks.works("works 20;station 1 0;station 60 0;");
        full.pass(19);
        due("19 are through at STATION 0", full.now(5), 20);
        full.pass(10);
        due("no more than K are on their way", full.now(5), 20);
        due("who waits is on its way, too", full.station(1, 4), 19);
    }

    private static void nowLeads() {
        sentence(6, "6 LEAD of the latest that is OUT (NONE), 7 the longest LEAD (NONE)");
        CardLoops x = Checks.works("works 1;station 1 5;station 1 0;run 0 1;run 1 1;run 1 1;");
        x.pass(1);
        due("none is OUT: LEAD", x.now(6), -1);
        due("none is OUT: longest LEAD", x.now(7), -1);
        x.pass(1);
        due("the first", x.now(6), 2);
        due("is the longest", x.now(7), 2);
        x.pass(7);
        due("the second", x.now(6), 7);
        due("is the longest", x.now(7), 7);
        x.pass(2);
        due("the third", x.now(6), 2);
        due("is not the longest", x.now(7), 7);
        x.anew();
        due("anew: LEAD", x.now(6), -1);
        due("anew: longest LEAD", x.now(7), -1);
        x.undo();
        due("undone: LEAD", x.now(6), 2);
        due("undone: longest LEAD", x.now(7), 7);
    }

    private static void nowUndoAndTape() {
        sentence(6, "8 what can be undone, 9 bytes of the tape");
        CardLoops x = Checks.works(TWO);
        for (int i = 0; i <= 10; i++) {
            due("acts", x.now(8), Math.min(i, 8));
            x.pass(1);
        }
        due("no tape", x.now(9), 0);
        x.feed(0, 0, 0, 0, 0);
        due("20 bytes", x.now(9), 20);
        x.end(1);
        due("one byte", x.now(9), 1);
        x.undo();
        due("acts", x.now(8), 7);
        due("the tape is not undone", x.now(9), 1);
    }

    private static void nowAnother() {
        sentence(6, "NONE for another what");
        due("the last", goingOn().now(9), 32);
        due("the first", goingOn().now(0), 2);
        refused("now(10)", x -> x.now(10), -1);
        refused("now(-1)", x -> x.now(-1), -1);
        refused("now(MAX)", x -> x.now(MAX), -1);
        refused("now(MIN)", x -> x.now(MIN), -1);
        refused("now(10) of a new object", CallEdgesTest::empty, x -> x.now(10), -1);
    }

    private static void stationIs(CardLoops x, int station, int... want) {
        for (int what = 0; what < want.length; what++) {
            due("at " + x.now(3) + " station(" + station + ", " + what + ")", x.station(station, what), want[what]);
        }
    }

    private static void stationEach() {
        sentence(7, "Of a STATION 0 TIME, 1 SETUP, 2 0 to 3 as told, 3 the KIND of its PART (idle: NONE), "
            + "4 how many wait there, 5 at which TIME it is through (idle: NONE)");
        CardLoops x = Checks.works("works 4;station 2 3;station 6 1;run 1 1;run 2 1;");
        stationIs(x, 0, 2, 3, 3, 1, 0, 2);
        stationIs(x, 1, 6, 1, 0, -1, 0, -1);
        x.pass(7);
        stationIs(x, 0, 2, 3, 2, 1, 0, 12);
        stationIs(x, 1, 6, 1, 3, 1, 1, 8);
        sentence(7, "6 to 9 for how many minutes it was so far STARVED, HELD, SET UP, WORKED");
        stationIs(x, 0, 2, 3, 2, 1, 0, 12, 0, 0, 3, 4);
        stationIs(x, 1, 6, 1, 3, 1, 1, 8, 2, 0, 0, 5);
        x.pass(993);
        for (int station = 0; station < 2; station++) {
            int sum = 0;
            for (int what = 6; what <= 9; what++) {
                sum += x.station(station, what);
            }
            due("they are all of TIME", sum, 1000);
        }
        x.anew();
        stationIs(x, 1, 6, 1, 0, -1, 0, -1, 0, 0, 0, 0);
    }

    private static void throwsIt(int station, int what) {
        refused("station(" + station + ", " + what + ") throws", x -> Twins.throwsNoSuch(x, station, what), 1);
    }

    private static void stationThrows() {
        sentence(7, "NoSuchElementException: no such one, another what.");
        due("the last STATION, the last what", Twins.throwsNoSuch(goingOn(), 1, 9), 0);
        due("the first STATION, the first what", Twins.throwsNoSuch(goingOn(), 0, 0), 0);
        throwsIt(2, 0);
        throwsIt(5, 0);
        throwsIt(6, 0);
        throwsIt(-1, 0);
        throwsIt(1, 10);
        throwsIt(1, -1);
        throwsIt(0, 10);
        throwsIt(2, 10);
        throwsIt(MAX, 0);
        throwsIt(MIN, 0);
        throwsIt(0, MAX);
        throwsIt(0, MIN);
        refused("no works", CallEdgesTest::empty, x -> Twins.throwsNoSuch(x, 0, 0), 1);
        CardLoops six = Checks.works("works 1;" + Checks.times("station 1 0;", 6));
        due("STATION 5", Twins.throwsNoSuch(six, 5, 9), 0);
        due("STATION 6", Twins.throwsNoSuch(six, 6, 9), 1);
    }

    private static void waitsByNumber() {
        sentence(8, "The KIND of the i-th PART (from 0) that waits at a STATION; NONE: none such (at STATION 0 nobody waits by number)");
        CardLoops x = Checks.works("works 20;station 1 0;station 60 0;run 1 1;run 2 1;run 3 1;run 0 1;");
        due("nobody waits", x.waits(1, 0), -1);
        x.pass(1);
        due("it is begun at once", x.waits(1, 0), -1);
        x.pass(1);
        due("one waits", x.waits(1, 0), 2);
        due("no second one", x.waits(1, 1), -1);
        x.pass(18);
        for (int i = 0; i < 19; i++) {
            due("waits(1, " + i + ")", x.waits(1, i), (i + 2) % 4);
        }
        due("waits(1, 19)", x.waits(1, 19), -1);
        due("waits(0, 0)", x.waits(0, 0), -1);
        due("waits(2, 0)", x.waits(2, 0), -1);
        due("one waits at 1", goingOn().waits(1, 0), 1);
        refused("waits(1, as many as wait)", y -> y.waits(1, y.station(1, 4)), -1);
        refused("waits(1, -1)", y -> y.waits(1, -1), -1);
        refused("waits(1, MAX)", y -> y.waits(1, MAX), -1);
        refused("waits(1, MIN)", y -> y.waits(1, MIN), -1);
        refused("waits(2, 0)", y -> y.waits(2, 0), -1);
        refused("waits(6, 0)", y -> y.waits(6, 0), -1);
        refused("waits(-1, 0)", y -> y.waits(-1, 0), -1);
        refused("waits(MAX, 0)", y -> y.waits(MAX, 0), -1);
        refused("waits(MIN, 0)", y -> y.waits(MIN, 0), -1);
        refused("no works", CallEdgesTest::empty, y -> y.waits(0, 0), -1);
        refused("no works, STATION 1", CallEdgesTest::empty, y -> y.waits(1, 0), -1);
    }

    private static void loopEach() {
        sentence(9, "Of a LOOP 0 FROM, 1 TO, 2 K, 3 cards FREE. NONE: no such one, another what.");
        CardLoops x = Checks.works("works 20;station 1 0;station 1 0;loop 0 0 1;loop 1 1 2;loop 0 1 3;loop 1 1 20;");
        int[][] want = {{0, 1, 20, 19}, {0, 0, 1, 0}, {1, 1, 2, 2}, {0, 1, 3, 2}, {1, 1, 20, 20}};
        for (int loop = 0; loop < 5; loop++) {
            for (int what = 0; what < 4; what++) {
                due("loop(" + loop + ", " + what + ")", x.loop(loop, what), want[loop][what]);
            }
        }
        due("loop(5, 0)", x.loop(5, 0), -1);
        due("the last one, the last what", goingOn().loop(1, 3), 1);
        refused("loop(2, 0)", y -> y.loop(2, 0), -1);
        refused("loop(-1, 0)", y -> y.loop(-1, 0), -1);
        refused("loop(0, 4)", y -> y.loop(0, 4), -1);
        refused("loop(0, -1)", y -> y.loop(0, -1), -1);
        refused("loop(MAX, 0)", y -> y.loop(MAX, 0), -1);
        refused("loop(MIN, 0)", y -> y.loop(MIN, 0), -1);
        refused("loop(1, MAX)", y -> y.loop(1, MAX), -1);
        refused("loop(1, MIN)", y -> y.loop(1, MIN), -1);
        refused("no works", CallEdgesTest::empty, y -> y.loop(0, 0), -1);
    }

    private static void nextTo999() {
        sentence(10, "The KIND of the i-th PART (from 0, to 999) that is yet to be begun. NONE: none such, no works.");
        CardLoops x = Checks.works("works 1;station 1 0;run 1 1;run 2 1;run 3 2;");
        due("next(0)", x.next(0), 2);
        due("next(998)", x.next(998), 3);
        due("next(999)", x.next(999), 1);
        x.step();
        due("next(0) then", x.next(0), 3);
        due("next(999) then", x.next(999), 2);
        CardLoops held = Checks.works("works 1;station 1 0;station 9 0;run 1 1;run 2 1;");
        held.pass(5);
        due("who is held back is yet to be begun", held.next(0), 2);
        CardLoops y = late("works 1;station 1 0;run 1 1;run 2 1;run 3 1;");
        due("late: begun are 99901", y.next(0), 2);
        due("late: next(999)", y.next(999), 2);
        due("the last that is told", goingOn().next(999) >= 1, true);
        refused("next(1000)", z -> z.next(1000), -1);
        refused("next(-1)", z -> z.next(-1), -1);
        refused("next(MAX)", z -> z.next(MAX), -1);
        refused("next(MIN)", z -> z.next(MIN), -1);
        refused("no works", CallEdgesTest::empty, z -> z.next(0), -1);
    }

    private static void whenTo200() {
        sentence(11, "When the n-th PART (1 to 200) more is OUT (a TIME, what 0), how long its LEAD is (1).");
        CardLoops x = Checks.works(TWO);
        due("when(1, 0)", x.when(1, 0), 8);
        due("when(1, 1)", x.when(1, 1), 8);
        due("when(2, 0)", x.when(2, 0), 13);
        due("when(2, 1)", x.when(2, 1), 10);
        due("when(200, 0)", x.when(200, 0), 8 + 199 * 5);
        due("when(200, 1)", x.when(200, 1), 10);
        x.pass(7);
        due("a minute ahead", x.when(1, 0), 8);
        x.pass(1);
        due("one more, behind it", x.when(1, 0), 13);
        CardLoops late = late("works 1;station 7 0;");
        late.pass(98);
        due("late", late.now(3), 99998);
        due("the document names no TIME above which it is NONE", late.when(1, 0), 100002);
        due("the 200th", late.when(200, 0), 99995 + 1400);
        due("its LEAD", late.when(200, 1), 7);
        CardLoops turns = Checks.works("works 1;station 1 10;run 1 1;run 2 1;");
        turns.longer(5, 0);
        due("by COUNTS as they are, whatever was asked before", turns.when(3, 0), 23);
        CardLoops slow = Checks.works("works 1;" + Checks.times("station 60 60;", 6) + "run 1 1;run 2 1;");
        due("the slowest", slow.when(200, 0), 360 + 199 * 720);
        due("its LEAD", slow.when(200, 1), 720);
    }

    private static void whenAnother() {
        sentence(11, "NONE: another n, what, no works.");
        due("the last that is told", goingOn().when(200, 1) >= 1, true);
        refused("when(200, 0) moves nothing", x -> x.when(200, 0) >= 1 ? 1 : 0, 1);
        refused("when(201, 0)", x -> x.when(201, 0), -1);
        refused("when(0, 0)", x -> x.when(0, 0), -1);
        refused("when(-1, 1)", x -> x.when(-1, 1), -1);
        refused("when(1, 2)", x -> x.when(1, 2), -1);
        refused("when(1, -1)", x -> x.when(1, -1), -1);
        refused("when(MAX, 0)", x -> x.when(MAX, 0), -1);
        refused("when(MIN, 0)", x -> x.when(MIN, 0), -1);
        refused("when(1, MAX)", x -> x.when(1, MAX), -1);
        refused("when(1, MIN)", x -> x.when(1, MIN), -1);
        refused("no works", CallEdgesTest::empty, x -> x.when(1, 0), -1);
    }

    private static CardLoops notSo() {
        CardLoops x = Checks.works("works 12;station 58 55;station 19 17;station 58 57;station 22 1;"
            + "loop 1 2 9;run 2 19;run 0 7;run 1 14;");
        x.pass(100);
        return x;
    }

    private static void paceAnother() {
        sentence(12, "PACE: PARTS (what 0), minutes (1). NONE: another what, not so, no works.");
        due("what 0", Checks.works(TWO).pace(0), 1);
        due("what 1", Checks.works(TWO).pace(1), 5);
        refused("pace(0) moves nothing", x -> x.pace(0) >= 1 ? 1 : 0, 1);
        refused("pace(2)", x -> x.pace(2), -1);
        refused("pace(-1)", x -> x.pace(-1), -1);
        refused("pace(MAX)", x -> x.pace(MAX), -1);
        refused("pace(MIN)", x -> x.pace(MIN), -1);
        refused("not so: PARTS", CallEdgesTest::notSo, x -> x.pace(0), -1);
        refused("not so: minutes", CallEdgesTest::notSo, x -> x.pace(1), -1);
        refused("no works", CallEdgesTest::empty, x -> x.pace(0), -1);
        refused("no works: minutes", CallEdgesTest::empty, x -> x.pace(1), -1);
    }

    private static void boundAnother() {
        sentence(13, "BOUND: PARTS (what 0), minutes (1); TIGHT: a LOOP, or 100 and a STATION (2). NONE: another what, no works.");
        CardLoops x = Checks.works("works 20;" + Checks.times("station 59 0;", 5) + "station 60 0;");
        due("PARTS", x.bound(0), 1);
        due("minutes", x.bound(1), 60);
        due("STATION 5", x.bound(2), 105);
        due("STATION 0", Checks.works("works 20;station 9 0;station 8 0;").bound(2), 100);
        due("LOOP 0", Checks.works("works 1;station 9 0;station 8 0;").bound(2), 0);
        due("LOOP 4", Checks.works("works 9;station 9 0;station 8 0;loop 0 0 2;loop 0 0 2;loop 0 0 2;loop 0 1 1;").bound(2), 4);
        refused("bound(3)", y -> y.bound(3), -1);
        refused("bound(-1)", y -> y.bound(-1), -1);
        refused("bound(MAX)", y -> y.bound(MAX), -1);
        refused("bound(MIN)", y -> y.bound(MIN), -1);
        for (int what = 0; what <= 2; what++) {
            int asked = what;
            refused("no works: bound(" + what + ")", CallEdgesTest::empty, y -> y.bound(asked), -1);
        }
    }

    private static void needsAbove20() {
        sentence(14, "NEEDS (above 20, too)");
        CardLoops x = Checks.works("works 1;station 60 60;loop 0 0 3;" + Checks.times("station 60 60;", 5));
        due("20", x.needs(1, 1, 3), 20);
        due("21", x.needs(1, 7, 20), 21);
        due("the most of LOOP 0", x.needs(0, 99, 1), 35640);
        due("the fewest of LOOP 1", x.needs(1, 1, 60), 1);
        due("the fewest by most minutes", x.needs(1, 1, 99), 1);
        due("the most by most minutes", x.needs(0, 99, 99), 360);
    }

    private static void needsRefused() {
        sentence(14, "NONE: no such LOOP, n, m not 1 to 99.");
        due("99 by 1", goingOn().needs(1, 99, 1), 396);
        due("1 by 99", goingOn().needs(1, 1, 99), 1);
        refused("LOOP 2", x -> x.needs(2, 1, 1), -1);
        refused("LOOP -1", x -> x.needs(-1, 1, 1), -1);
        refused("LOOP MAX", x -> x.needs(MAX, 1, 1), -1);
        refused("LOOP MIN", x -> x.needs(MIN, 1, 1), -1);
        refused("n 0", x -> x.needs(0, 0, 1), -1);
        refused("n 100", x -> x.needs(0, 100, 1), -1);
        refused("n MIN", x -> x.needs(0, MIN, 1), -1);
        refused("n MAX", x -> x.needs(0, MAX, 1), -1);
        refused("m 0", x -> x.needs(0, 1, 0), -1);
        refused("m 100", x -> x.needs(0, 1, 100), -1);
        refused("m MIN", x -> x.needs(0, 1, MIN), -1);
        refused("m MAX", x -> x.needs(0, 1, MAX), -1);
        refused("no works", CallEdgesTest::empty, x -> x.needs(0, 1, 1), -1);
    }

    private static void leastNone() {
        sentence(15, "LEAST; -2: none.");
        CardLoops x = Checks.works("works 1;station 1 0;station 1 0;loop 1 1 1;");
        due("99 by 99", x.least(0, 99, 99), 2);
        due("99 by 98", x.least(0, 99, 98), -2);
        due("1 by 99", x.least(0, 1, 99), 1);
        due("1 by 1", x.least(0, 1, 1), 2);
        due("99 by 1", x.least(0, 99, 1), -2);
        due("LOOP 1 can't help", x.least(1, 1, 1), -2);
        due("LOOP 1", x.least(1, 1, 2), 1);
        CardLoops six = Checks.works("works 1;" + Checks.times("station 1 0;", 6));
        due("six STATIONS", six.least(0, 1, 1), 6);
        due("six STATIONS, half of it", six.least(0, 1, 2), 3);
        Checks.tell(six, "works 1;station 1 0;station 60 0;");
        Checks.tell(six, "works 1;station 1 0;loop 0 0 1;run 0 1;run 0 1;");
        due("what an earlier text told is gone", six.least(0, 1, 1), 1);
        refused("least moves nothing", y -> y.least(1, 1, 99), 1);
        refused("-2 moves nothing", y -> y.least(0, 99, 1), -2);
    }

    private static void leastRefused() {
        sentence(15, "NONE: no such LOOP, n, m not 1 to 99.");
        refused("LOOP 2", x -> x.least(2, 1, 1), -1);
        refused("LOOP -1", x -> x.least(-1, 1, 1), -1);
        refused("LOOP MAX", x -> x.least(MAX, 1, 1), -1);
        refused("LOOP MIN", x -> x.least(MIN, 1, 1), -1);
        refused("n 0", x -> x.least(0, 0, 1), -1);
        refused("n 100", x -> x.least(0, 100, 1), -1);
        refused("n MIN", x -> x.least(0, MIN, 1), -1);
        refused("n MAX", x -> x.least(0, MAX, 1), -1);
        refused("m 0", x -> x.least(0, 1, 0), -1);
        refused("m 100", x -> x.least(0, 1, 100), -1);
        refused("m MIN", x -> x.least(0, 1, MIN), -1);
        refused("m MAX", x -> x.least(0, 1, MAX), -1);
        refused("no works", CallEdgesTest::empty, x -> x.least(0, 1, 1), -1);
    }

    private static void longerAnother() {
        sentence(16, "LONGER: PARTS (what 0), minutes (1). NONE: another f, what, not so, no works.");
        CardLoops x = Checks.works("works 3;station 2 4;run 1 2;run 2 1;");
        due("f 1: PARTS", x.longer(1, 0), 3);
        due("f 1: minutes", x.longer(1, 1), 14);
        due("f 5: PARTS", x.longer(5, 0), 15);
        due("f 5: minutes", x.longer(5, 1), 38);
        refused("longer(5, 0) moves nothing", y -> y.longer(5, 0) >= 1 ? 1 : 0, 1);
        refused("f 0", y -> y.longer(0, 0), -1);
        refused("f 6", y -> y.longer(6, 0), -1);
        refused("f -1", y -> y.longer(-1, 0), -1);
        refused("f MAX", y -> y.longer(MAX, 0), -1);
        refused("f MIN", y -> y.longer(MIN, 0), -1);
        refused("what 2", y -> y.longer(1, 2), -1);
        refused("what -1", y -> y.longer(1, -1), -1);
        refused("what MAX", y -> y.longer(5, MAX), -1);
        refused("what MIN", y -> y.longer(5, MIN), -1);
        refused("not so: PARTS", CallEdgesTest::notSo, y -> y.longer(1, 0), -1);
        refused("not so: minutes", CallEdgesTest::notSo, y -> y.longer(1, 1), -1);
        refused("no works", CallEdgesTest::empty, y -> y.longer(1, 0), -1);
        refused("no works: f 5", CallEdgesTest::empty, y -> y.longer(5, 1), -1);
    }

    private static void longestLeast() {
        sentence(17, "The least f by which LONGER is most.");
        due("all are like", Checks.works(TWO).longest(), 1);
        due("all are 2 by 15", Checks.works("works 2;station 7 0;station 7 0;station 1 0;").longest(), 1);
        due("from 2 on all are like", Checks.works("works 3;station 3 0;station 1 4;run 0 1;run 3 1;").longest(), 2);
        due("each is more", Checks.works("works 1;station 1 10;run 1 1;run 2 1;").longest(), 5);
        due("each is more, by 5 it is 15 by 38", Checks.works("works 3;station 2 4;run 1 2;run 2 1;").longest(), 5);
        due("one KIND", Checks.works("works 2;station 3 9;run 1 4;run 1 4;").longest(), 1);
        CardLoops some = Checks.works("works 12;station 4 7;station 4 8;run 3 2;run 2 18;");
        due("by 5 it is not so", some.longer(5, 0), -1);
        due("by 4 it is most", some.longest(), 4);
        CardLoops later = Checks.works("works 14;station 8 8;station 9 0;run 2 8;run 0 9;");
        due("by 1 it is not so", later.longer(1, 0), -1);
        due("by 2 as much as by 3 and more", later.longest(), 2);
        refused("longest moves nothing", x -> x.longest() >= 1 ? 1 : 0, 1);
    }

    private static void longestNone() {
        sentence(17, "NONE: no works, none is so.");
        refused("no works", CallEdgesTest::empty, CardLoops::longest, -1);
        refused("none is so", CallEdgesTest::notSo, CardLoops::longest, -1);
        for (int f = 1; f <= 5; f++) {
            due("longer(" + f + ", 0)", notSo().longer(f, 0), -1);
        }
    }

    private static void passTo999() {
        sentence(18, "Minutes pass (1 to 999;");
        CardLoops x = Checks.works(TWO);
        due("pass(1)", x.pass(1), 0);
        due("TIME 1", x.now(3), 1);
        due("pass(999)", x.pass(999), 199);
        due("TIME 1000", x.now(3), 1000);
        sentence(18, "NONE: another n, TIME would be above 99999, no works.");
        refused("pass(0)", y -> y.pass(0), -1);
        refused("pass(1000)", y -> y.pass(1000), -1);
        refused("pass(-1)", y -> y.pass(-1), -1);
        refused("pass(MAX)", y -> y.pass(MAX), -1);
        refused("pass(MIN)", y -> y.pass(MIN), -1);
        refused("no works", CallEdgesTest::empty, y -> y.pass(1), -1);
    }

    private static void passTheLastMinute() {
        sentence(18, "who is through at the last of these, too): how many PARTS came OUT");
        CardLoops x = Checks.works(TWO);
        due("a minute ahead", x.pass(7), 0);
        stationIs(x, 1, 5, 0, 3, 0, 1, 8);
        due("the last minute", x.pass(1), 1);
        stationIs(x, 1, 5, 0, 3, 0, 0, 13);
        due("OUT", x.now(4), 1);
        due("a ROUND was at its end: STATION 0 has the card", x.station(0, 5), 11);
        due("two more", x.pass(10), 2);
        due("none", x.pass(4), 0);
        CardLoops quick = Checks.works("works 1;station 1 0;");
        due("as many as minutes", quick.pass(999), 999);
    }

    private static void passTo99999() {
        sentence(18, "TIME would be above 99999");
        String works = "works 1;station 7 0;station 2 0;";
        CardLoops x = late(works);
        due("pass(99)", x.pass(99), 11);
        due("TIME", x.now(3), 99999);
        due("no minute more", x.pass(1), -1);
        due("TIME stays", x.now(3), 99999);
        due("a minute less", late(works).pass(98), 10);
        refused("pass(100)", () -> late(works), y -> y.pass(100), -1);
        refused("pass(999)", () -> late(works), y -> y.pass(999), -1);
        refused("pass(1) at 99999", () -> {
            CardLoops y = late(works);
            y.pass(99);
            return y;
        }, y -> y.pass(1), -1);
        due("undo", x.undo(), 7);
        due("TIME is back", x.now(3), 99900);
        due("anew", x.anew(), 1);
        due("there is room again", x.pass(999), 111);
    }

    private static void stepNext() {
        sentence(19, "Till somebody is through next: TIME then.");
        CardLoops x = Checks.works("works 9;station 2 0;station 3 60;run 1 1;run 2 1;");
        int[] times = {2, 4, 5, 6, 8, 10};
        for (int time : times) {
            due("step", x.step(), time);
            due("TIME", x.now(3), time);
        }
        x.pass(1);
        due("from between", x.step(), 12);
        due("SETUP that ends is nobody through", Checks.works("works 1;station 2 3;run 1 1;run 2 1;").step(), 2);
        CardLoops setup = Checks.works("works 1;station 2 3;run 1 1;run 2 1;");
        setup.step();
        due("over SETUP and TIME", setup.step(), 7);
    }

    private static CardLoops late(String works, int more) {
        CardLoops x = late(works);
        x.pass(more);
        return x;
    }

    private static void stepTo99999() {
        sentence(19, "NONE: no works, TIME would be above 99999.");
        due("to 99999", late("works 1;station 9 0;", 90).step(), 99999);
        refused("from 99999", () -> late("works 1;station 9 0;", 99), CardLoops::step, -1);
        refused("to 100000", () -> late("works 1;station 10 0;", 90), CardLoops::step, -1);
        refused("to 100000, a minute ahead", () -> late("works 1;station 10 0;", 99), CardLoops::step, -1);
        CardLoops each = late("works 1;station 1 0;", 98);
        due("from 99998", each.step(), 99999);
        due("no further", each.step(), -1);
        due("TIME stays", each.now(3), 99999);
        refused("no works", CallEdgesTest::empty, CardLoops::step, -1);
    }

    private static void cardsTo20() {
        sentence(20, "A LOOP has K cards then (1 to 20;");
        CardLoops x = Checks.works("works 2;station 3 0;station 5 0;loop 1 1 2;");
        due("20 of LOOP 1", x.cards(1, 20), 20);
        due("K", x.loop(1, 2), 20);
        due("1 of LOOP 1", x.cards(1, 1), 1);
        due("K then", x.loop(1, 2), 1);
        due("20 of LOOP 0", x.cards(0, 20), 19);
        due("1 of LOOP 0", x.cards(0, 1), 0);
        due("no other LOOP", x.loop(1, 2), 1);
        due("four acts", x.now(8), 4);
    }

    private static void cardsFewer() {
        sentence(20, "fewer: as many as are gone must be FREE");
        CardLoops x = Checks.works("works 9;station 1 0;station 60 0;");
        x.pass(5);
        due("on their way", x.now(5), 6);
        due("FREE", x.loop(0, 3), 3);
        due("four gone, three FREE", x.cards(0, 5), -1);
        due("K stays", x.loop(0, 2), 9);
        due("three gone, three FREE", x.cards(0, 6), 0);
        due("none FREE", x.cards(0, 5), -1);
        due("on their way still", x.now(5), 6);
        due("nobody begins any more", x.pass(10), 0);
        due("on their way", x.now(5), 6);
        due("STATION 0 is held", x.station(0, 2), 1);
    }

    private static void cardsFreeThen() {
        sentence(20, "how many are FREE then");
        CardLoops x = Checks.works("works 1;station 2 0;station 9 0;");
        x.pass(3);
        due("one comes and goes with the next PART", x.cards(0, 2), 0);
        due("on their way", x.now(5), 2);
        due("three come while STATION 0 works", x.cards(0, 5), 3);
        due("as loop() says", x.loop(0, 3), 3);
        CardLoops y = Checks.works("works 1;station 2 0;station 9 0;");
        y.pass(3);
        due("four come, one goes with the next PART", y.cards(0, 5), 3);
        due("as loop() says", y.loop(0, 3), 3);
    }

    private static void cardsRefused() {
        sentence(20, "NONE: no such ones, it has K, not enough are FREE.");
        refused("LOOP 2", x -> x.cards(2, 1), -1);
        refused("LOOP -1", x -> x.cards(-1, 1), -1);
        refused("LOOP MAX", x -> x.cards(MAX, 1), -1);
        refused("LOOP MIN", x -> x.cards(MIN, 1), -1);
        refused("k 0", x -> x.cards(1, 0), -1);
        refused("k 21", x -> x.cards(1, 21), -1);
        refused("k 0, all are FREE", () -> Checks.works(PAIR), x -> x.cards(1, 0), -1);
        refused("k -1", x -> x.cards(1, -1), -1);
        refused("k MAX", x -> x.cards(1, MAX), -1);
        refused("k MIN", x -> x.cards(1, MIN), -1);
        refused("it has K: LOOP 0", x -> x.cards(0, 4), -1);
        refused("it has K: LOOP 1", x -> x.cards(1, 2), -1);
        due("one is FREE", goingOn().loop(0, 3), 1);
        due("one gone, just enough are FREE", goingOn().cards(0, 3), 0);
        refused("two gone, not enough are FREE", x -> x.cards(0, 2), -1);
        refused("three gone, not enough are FREE", x -> x.cards(0, 1), -1);
        refused("no works", CallEdgesTest::empty, x -> x.cards(0, 1), -1);
    }

    private static void anew() {
        sentence(21, "All begins anew at TIME 0, with cards as they are: how many PARTS are on their way then; NONE: no works.");
        CardLoops x = goingOn();
        due("anew", x.anew(), 1);
        due("can be undone", x.now(8), 4);
        due("the tape stays", x.now(9), 32);
        due("cards as they are", x.loop(0, 2), 4);
        CardLoops y = Checks.works(PAIR.replace("works 3", "works 4"));
        Checks.put(y, TWO);
        CHECKS.same("all is as told, but for the cards", Twins.picture(x), Twins.picture(y));
        due("on their way", x.now(5), 1);
        CardLoops held = Checks.works("works 1;station 1 0;station 9 0;");
        held.pass(4);
        due("at TIME 0 a card is FREE for the first", held.anew(), 1);
        due("again", held.anew(), 1);
        due("acts", held.now(8), 3);
        refused("no works", CallEdgesTest::empty, CardLoops::anew, -1);
    }

    private static void undoEach() {
        sentence(22, "The latest pass(), step(), cards(), anew() that was not NONE is undone: how many more can be");
        CardLoops x = Checks.works(PAIR);
        String[] pictures = new String[5];
        pictures[0] = Twins.picture(x);
        x.pass(9);
        pictures[1] = Twins.picture(x);
        x.step();
        pictures[2] = Twins.picture(x);
        x.cards(0, 5);
        pictures[3] = Twins.picture(x);
        x.anew();
        x.pass(0);
        x.cards(0, 5);
        x.cards(0, 21);
        Checks.tell(x, "?");
        for (int more = 3; more >= 0; more--) {
            due("undo", x.undo(), more);
            CHECKS.same("as it was", Twins.picture(x), pictures[more]);
        }
        due("no more", x.undo(), -1);
        CardLoops six = Checks.works("works 9;" + Checks.times("station 7 2;", 6) + "loop 2 5 2;run 1 2;run 2 1;");
        six.pass(99);
        String picture = Twins.picture(six);
        six.pass(500);
        due("undo of six STATIONS", six.undo(), 1);
        CHECKS.same("as it was", Twins.picture(six), picture);
    }

    private static void undoEight() {
        sentence(22, "(8 at most are kept)");
        CardLoops eight = Checks.works(TWO);
        for (int i = 0; i < 8; i++) {
            eight.pass(10);
        }
        due("eight can be", eight.now(8), 8);
        for (int more = 7; more >= 0; more--) {
            due("undo", eight.undo(), more);
            due("TIME", eight.now(3), 10 * more);
        }
        due("all eight were", eight.undo(), -1);
        CardLoops nine = Checks.works(TWO);
        for (int i = 0; i < 9; i++) {
            nine.pass(10);
        }
        due("eight of nine can be", nine.now(8), 8);
        for (int more = 7; more >= 0; more--) {
            due("undo", nine.undo(), more);
            due("TIME", nine.now(3), 10 + 10 * more);
        }
        due("the first is kept no more", nine.undo(), -1);
        due("TIME stays", nine.now(3), 10);
        wrapAround();
    }

    /** Undone and done again, over where the room for eight begins anew. */
    private static void wrapAround() {
        CardLoops x = Checks.works(TWO);
        for (int turn = 0; turn < 6; turn++) {
            x.pass(7);
            x.pass(7);
            x.pass(7);
            due("undo in turns", x.undo(), Math.min(8, 2 * turn + 3) - 1);
            due("TIME", x.now(3), 14 * (turn + 1));
        }
        for (int more = 6; more >= 0; more--) {
            due("undo behind them", x.undo(), more);
            due("TIME", x.now(3), 84 - 7 * (7 - more));
        }
        due("no more", x.undo(), -1);
    }

    private static void undoNone() {
        sentence(22, "NONE: none is.");
        refused("a new works", () -> Checks.works(PAIR), CardLoops::undo, -1);
        refused("no works", CallEdgesTest::empty, CardLoops::undo, -1);
        CardLoops x = Checks.works(TWO);
        x.pass(0);
        x.cards(0, 2);
        x.cards(0, 0);
        x.when(5, 0);
        x.pace(0);
        x.least(0, 1, 5);
        due("what was NONE, or asked alone, is no act", x.undo(), -1);
        x.pass(1);
        due("undo", x.undo(), 0);
        due("undo is no act", x.undo(), -1);
    }

    /** Every call of the face without a works, as new and as told so by an empty text. */
    private static void noWorks() {
        sentence(4, "an empty one: no works");
        CardLoops told = goingOn();
        told.end(0);
        told.text();
        CardLoops[] both = {empty(), told};
        for (CardLoops x : both) {
            nowIs(x, 0, 0, 0, 0, 0, 0, -1, -1, 0, 0, -1);
            due("station", Twins.throwsNoSuch(x, 0, 0), 1);
            due("waits", x.waits(0, 0), -1);
            due("waits at 1", x.waits(1, 0), -1);
            due("loop", x.loop(0, 2), -1);
            due("next", x.next(0), -1);
            due("when", x.when(1, 0), -1);
            due("pace", x.pace(0), -1);
            due("bound", x.bound(2), -1);
            due("needs", x.needs(0, 1, 99), -1);
            due("least", x.least(0, 1, 99), -1);
            due("longer", x.longer(1, 0), -1);
            due("longest", x.longest(), -1);
            due("pass", x.pass(1), -1);
            due("step", x.step(), -1);
            due("cards", x.cards(0, 2), -1);
            due("anew", x.anew(), -1);
            due("undo", x.undo(), -1);
            due("a works can be told", Checks.tell(x, TWO), 3);
            due("and goes on", x.step(), 3);
        }
    }

    private static void the512thCall() {
        CHECKS.sentence("What it is", "An object is used for at most 512 calls after it has been made");
        CardLoops x = empty();
        x.feed(0x776f726b, 0x7320323b, 0x73746174, 0x696f6e20, 0x3320303b);
        due("the second call", x.text(), 2);
        for (int call = 3; call <= 510; call++) {
            due("call " + call, x.pass(1), call % 3 == 2 ? 1 : 0);
        }
        due("call 511", x.undo(), 7);
        due("call 512", x.now(3), 507);
    }
}
