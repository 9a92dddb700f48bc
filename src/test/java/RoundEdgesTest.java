/** "==== 2.", sentence by sentence: RUNS, ROUNDS, cards, who is STARVED or HELD, SETUP, LEAD, at their boundaries. */
public final class RoundEdgesTest {
    private static final Checks CHECKS = new Checks();
    private static final int STARVED = 0;
    private static final int HELD = 1;
    private static final int SETS_UP = 2;
    private static final int WORKS = 3;

    public static void main(String[] args) {
        countOfAKind();
        behindTheLastRunTheFirst();
        noRuns();
        alwaysMore();
        allStationsThenOut();
        cardFromBegunTillThrough();
        throughFromLastToFirst();
        behindThoseThatWait();
        cardsComeBackInTheSameRound();
        firstThatWaits();
        eachLoopNeedsAFreeCard();
        theLastFreeCard();
        setupOfAnotherKind();
        setupZero();
        setupOverTheWrapAround();
        noSetupOfTheFirst();
        thenTimeMinutes();
        roundAtTimeZero();
        roundWheneverSomebodyIsThrough();
        roundByHand();
        starved();
        held();
        stationZeroIsHeld();
        setsUpOrWorks();
        lead();
        CHECKS.close();
    }

    private static void sentence(String quote) {
        CHECKS.sentence("==== 2.", quote);
    }

    private static void due(String call, long got, long want) {
        CHECKS.due(call, got, want);
    }

    /** 2 whether it is idle, 3 the KIND there, 4 how many wait, 5 when it is through. */
    private static void stationIs(CardLoops x, int station, int state, int kind, int waiting, int through) {
        String name = "at " + x.now(3) + " station(" + station + ", ";
        due(name + "2)", x.station(station, 2), state);
        due(name + "3)", x.station(station, 3), kind);
        due(name + "4)", x.station(station, 4), waiting);
        due(name + "5)", x.station(station, 5), through);
    }

    private static void minutesAre(CardLoops x, int station, int... want) {
        for (int i = 0; i < 4; i++) {
            due("at " + x.now(3) + " station(" + station + ", " + (6 + i) + ")", x.station(station, 6 + i), want[i]);
        }
    }

    private static void countOfAKind() {
        sentence("PARTS come as RUNS tell: COUNT of a KIND, then of the next run");
        CardLoops x = Checks.works("works 1;station 1 0;run 2 1;run 1 20;run 3 2;");
        for (int part = 1; part < 23; part++) {
            due("next(" + (part - 1) + ")", x.next(part - 1), part <= 20 ? 1 : 3);
        }
        for (int part = 0; part < 23; part++) {
            due("KIND of PART " + part, x.station(0, 3), part == 0 ? 2 : part <= 20 ? 1 : 3);
            x.step();
        }
    }

    private static void behindTheLastRunTheFirst() {
        sentence("behind the last one the first anew");
        CardLoops few = Checks.works("works 1;station 1 0;run 1 1;run 2 2;");
        int[] row = {2, 2, 1, 2, 2, 1, 2};
        for (int i = 0; i < row.length; i++) {
            due("next(" + i + ")", few.next(i), row[i]);
        }
        for (int i = 0; i < row.length; i++) {
            few.step();
            due("KIND then", few.station(0, 3), row[i]);
        }
        CardLoops many = Checks.works("works 1;station 1 0;run 3 20;" + Checks.times("run 1 20;", 4) + "run 2 20;");
        due("the last of 120", many.next(118), 2);
        due("the first anew", many.next(119), 3);
        due("the last of the first run anew", many.next(138), 3);
        due("the second run anew", many.next(139), 1);
        due("the last of 240", many.next(238), 2);
        due("the first once more", many.next(239), 3);
        CardLoops one = Checks.works("works 1;station 1 9;run 2 1;");
        due("a single PART, again and again", one.next(999), 2);
        one.pass(10);
        due("it never sets up", one.station(0, 8), 0);
    }

    private static void noRuns() {
        sentence("(without any: KIND 0 always)");
        CardLoops x = Checks.works("works 3;station 1 9;station 4 9;");
        due("runs", x.now(2), 0);
        due("next(0)", x.next(0), 0);
        due("next(999)", x.next(999), 0);
        x.pass(40);
        due("KIND at 1", x.station(1, 3), 0);
        due("KIND that waits", x.waits(1, 0), 0);
        due("nobody sets up at 0", x.station(0, 8), 0);
        due("nobody sets up at 1", x.station(1, 8), 0);
        due("next(999) then", x.next(999), 0);
    }

    private static void alwaysMore() {
        sentence("there are always more ahead of STATION 0");
        CardLoops x = Checks.works("works 1;station 1 0;run 1 1;");
        due("999 minutes", x.pass(999), 999);
        due("it is never idle", x.station(0, 7), 0);
        due("nobody waits there by number", x.station(0, 4), 0);
    }

    private static void allStationsThenOut() {
        sentence("Each PART goes over all STATIONS by numbers, then it is OUT.");
        CardLoops six = Checks.works("works 1;station 1 0;station 2 0;station 3 0;station 4 0;station 5 0;station 6 0;");
        int[] ends = {1, 3, 6, 10, 15, 21};
        for (int station = 0; station < 6; station++) {
            due("only it works", six.station(station, 2), WORKS);
            due("it is through", six.station(station, 5), ends[station]);
            due("OUT", six.now(4), 0);
            due("step", six.step(), ends[station]);
        }
        due("OUT then", six.now(4), 1);
        CardLoops one = Checks.works("works 1;station 60 0;");
        due("one STATION, a minute ahead", one.pass(59), 0);
        due("one STATION", one.pass(1), 1);
    }

    private static void cardFromBegunTillThrough() {
        sentence("a PART has one of each from when it is begun at FROM till it is through at TO");
        CardLoops x = Checks.works("works 20;station 1 0;station 5 0;station 3 0;loop 0 0 2;loop 1 1 3;loop 1 2 4;");
        int[][] free = {
            {0, 19, 1, 3, 4},
            {1, 18, 1, 2, 3},
            {5, 14, 1, 2, 3},
            {6, 13, 1, 2, 2},
            {8, 11, 1, 2, 2},
            {9, 11, 1, 2, 3},
        };
        for (int[] row : free) {
            if (row[0] > x.now(3)) {
                x.pass(row[0] - x.now(3));
            }
            for (int loop = 0; loop < 4; loop++) {
                due("at " + row[0] + " FREE of LOOP " + loop, x.loop(loop, 3), row[1 + loop]);
            }
        }
    }

    private static void throughFromLastToFirst() {
        sentence("first, from the last STATION to the first, whoever is through: the PART waits at the next STATION");
        CardLoops x = Checks.works("works 20;station 3 0;station 3 0;station 3 0;run 1 1;run 2 1;run 3 1;run 0 1;");
        due("one is through", x.step(), 3);
        due("two at the same TIME", x.step(), 6);
        due("three at the same TIME", x.step(), 9);
        due("one of them is OUT", x.now(4), 1);
        stationIs(x, 0, WORKS, 0, 0, 12);
        stationIs(x, 1, WORKS, 3, 0, 12);
        stationIs(x, 2, WORKS, 2, 0, 12);
        due("a ROUND for all of them", x.step(), 12);
        due("OUT", x.now(4), 2);
        minutesAre(x, 2, 6, 0, 0, 6);
    }

    private static void behindThoseThatWait() {
        sentence("(behind those that wait there)");
        CardLoops x = Checks.works("works 20;station 1 0;station 9 0;run 1 1;run 2 1;run 3 1;run 0 1;");
        x.pass(5);
        int[] row = {2, 3, 0, 1};
        for (int i = 0; i < row.length; i++) {
            due("waits(1, " + i + ")", x.waits(1, i), row[i]);
        }
        due("waits(1, 4)", x.waits(1, 4), -1);
        x.pass(1);
        due("the first stays the first", x.waits(1, 0), 2);
        due("the new one is the last", x.waits(1, 4), 2);
    }

    private static void cardsComeBackInTheSameRound() {
        sentence("LOOPS whose TO that STATION is have the card back.");
        CardLoops x = Checks.works("works 3;station 3 0;station 3 0;station 3 0;loop 1 1 1;loop 1 2 2;");
        x.pass(90);
        due("every 3 minutes from 9 on", x.now(4), 28);
        for (int station = 0; station < 3; station++) {
            due("nobody is ever held", x.station(station, 7), 0);
        }
        due("LOOP 0", x.loop(0, 3), 0);
        due("LOOP 1", x.loop(1, 3), 0);
        due("LOOP 2", x.loop(2, 3), 0);
    }

    private static void firstThatWaits() {
        sentence("each idle one begins the first PART that waits there (STATION 0: the next one of RUNS)");
        CardLoops x = Checks.works("works 20;station 2 0;station 3 0;run 1 1;run 2 1;run 3 1;");
        x.pass(4);
        due("the second waits", x.waits(1, 0), 2);
        due("the next one of RUNS at 0", x.station(0, 3), 3);
        x.pass(1);
        stationIs(x, 1, WORKS, 2, 0, 8);
        x.pass(1);
        stationIs(x, 1, WORKS, 2, 1, 8);
        due("waits", x.waits(1, 0), 3);
        x.pass(2);
        stationIs(x, 1, WORKS, 3, 1, 11);
        due("who came at that very TIME waits", x.waits(1, 0), 1);
    }

    private static void eachLoopNeedsAFreeCard() {
        sentence("if each LOOP whose FROM it is has a card FREE (which goes with it)");
        CardLoops x = Checks.works("works 20;station 1 0;station 5 0;station 2 0;loop 1 1 2;loop 1 2 1;");
        x.pass(6);
        stationIs(x, 1, HELD, -1, 5, -1);
        due("no card of LOOP 2", x.loop(2, 3), 0);
        due("so none of LOOP 1 goes", x.loop(1, 3), 2);
        x.pass(1);
        stationIs(x, 1, HELD, -1, 6, -1);
        x.pass(1);
        stationIs(x, 1, WORKS, 0, 6, 13);
        due("one of each goes: LOOP 1", x.loop(1, 3), 1);
        due("one of each goes: LOOP 2", x.loop(2, 3), 0);
        CardLoops both = Checks.works("works 2;station 2 0;station 9 0;loop 0 1 1;");
        both.pass(2);
        stationIs(both, 0, HELD, -1, 0, -1);
        due("LOOP 0 keeps its FREE card", both.loop(0, 3), 1);
        due("LOOP 1 has none", both.loop(1, 3), 0);
    }

    private static void theLastFreeCard() {
        sentence("has a card FREE");
        CardLoops x = Checks.works("works 3;station 1 0;station 60 0;");
        int[] free = {2, 1, 0, 0};
        int[] states = {WORKS, WORKS, WORKS, HELD};
        for (int minute = 0; minute < 4; minute++) {
            due("FREE at " + minute, x.loop(0, 3), free[minute]);
            due("STATION 0 at " + minute, x.station(0, 2), states[minute]);
            x.pass(1);
        }
        due("on their way", x.now(5), 3);
    }

    private static void setupOfAnotherKind() {
        sentence("SETUP minutes, if the PART before it there was of another KIND");
        CardLoops x = Checks.works("works 9;station 2 1;station 1 60;run 1 2;run 2 1;");
        x.pass(2);
        due("of the same KIND", x.station(0, 5), 4);
        x.pass(2);
        due("of another KIND", x.station(0, 5), 7);
        due("STATION 1: of the same KIND", x.station(1, 5), 5);
        x.pass(3);
        due("STATION 1: of another KIND", x.station(1, 5), 68);
        due("STATION 0: of the first KIND again", x.station(0, 5), 10);
    }

    private static void setupZero() {
        sentence("SETUP minutes");
        CardLoops none = Checks.works("works 1;station 7 0;run 3 1;run 0 1;");
        none.pass(7);
        stationIs(none, 0, WORKS, 0, 0, 14);
        none.pass(70);
        minutesAre(none, 0, 0, 0, 0, 77);
        CardLoops one = Checks.works("works 1;station 7 1;run 3 1;run 0 1;");
        one.pass(7);
        stationIs(one, 0, SETS_UP, 0, 0, 15);
        one.pass(1);
        stationIs(one, 0, WORKS, 0, 0, 15);
        minutesAre(one, 0, 0, 0, 1, 7);
        CardLoops most = Checks.works("works 1;station 60 60;run 3 1;run 0 1;");
        most.pass(60);
        stationIs(most, 0, SETS_UP, 0, 0, 180);
        most.pass(59);
        stationIs(most, 0, SETS_UP, 0, 0, 180);
        most.pass(1);
        stationIs(most, 0, WORKS, 0, 0, 180);
        most.pass(60);
        minutesAre(most, 0, 0, 0, 60, 120);
    }

    private static void setupOverTheWrapAround() {
        sentence("if the PART before it there was of another KIND");
        CardLoops alike = Checks.works("works 1;station 1 5;run 1 1;run 2 1;run 1 1;");
        int[] ends = {1, 7, 13, 14, 20, 26, 27};
        for (int end : ends) {
            due("the last run and the first are alike", alike.step(), end);
        }
        CardLoops other = Checks.works("works 1;station 1 5;run 1 1;run 1 1;run 2 1;");
        int[] others = {1, 2, 8, 14, 15, 21, 27};
        for (int end : others) {
            due("two runs of a KIND are alike", other.step(), end);
        }
    }

    private static void noSetupOfTheFirst() {
        sentence("(none of the first one)");
        CardLoops x = Checks.works("works 1;" + Checks.times("station 2 60;", 6) + "run 3 1;run 2 1;");
        for (int station = 0; station < 6; station++) {
            due("state of the first at " + station, x.station(station, 2), WORKS);
            due("step", x.step(), 2 + 2 * station);
        }
        due("LEAD of the first", x.now(6), 12);
        due("the second sets up", x.station(0, 2), SETS_UP);
        x.anew();
        stationIs(x, 0, WORKS, 3, 0, 2);
    }

    private static void thenTimeMinutes() {
        sentence("then TIME minutes; then it is through");
        CardLoops x = Checks.works("works 1;station 1 0;");
        due("TIME 1", x.step(), 1);
        due("TIME 1 again", x.step(), 2);
        CardLoops y = Checks.works("works 1;station 60 0;");
        due("TIME 60", y.step(), 60);
        due("TIME 60 again", y.step(), 120);
        CardLoops z = Checks.works("works 1;station 60 60;run 1 1;run 2 1;");
        due("TIME 60 of the first", z.step(), 60);
        due("SETUP 60 and TIME 60", z.step(), 180);
    }

    private static void roundAtTimeZero() {
        sentence("At TIME 0 there is a ROUND");
        CardLoops x = Checks.works("works 2;station 3 9;station 4 9;loop 0 1 1;loop 1 1 1;run 2 1;run 1 1;");
        stationIs(x, 0, WORKS, 2, 0, 3);
        stationIs(x, 1, STARVED, -1, 0, -1);
        due("TIME", x.now(3), 0);
        due("on their way", x.now(5), 1);
        due("yet to be begun", x.next(0), 1);
        due("FREE of LOOP 0", x.loop(0, 3), 1);
        due("FREE of LOOP 1", x.loop(1, 3), 0);
        due("FREE of LOOP 2", x.loop(2, 3), 1);
    }

    private static void roundWheneverSomebodyIsThrough() {
        sentence("then one whenever somebody is through");
        CardLoops x = Checks.works("works 9;station 4 0;station 6 0;");
        int[] times = {4, 8, 10, 12, 16, 20, 22};
        for (int time : times) {
            due("step", x.step(), time);
        }
        CardLoops y = Checks.works("works 9;station 4 0;station 6 0;");
        y.pass(22);
        CHECKS.same("in one pass", Twins.picture(y), Twins.picture(x));
    }

    private static void roundByHand() {
        sentence("by hand cards come: a ROUND, too.");
        CardLoops x = Checks.works("works 1;station 2 0;station 9 0;loop 1 1 1;");
        x.pass(5);
        stationIs(x, 0, HELD, -1, 0, -1);
        due("a card comes", x.cards(0, 2), 0);
        stationIs(x, 0, WORKS, 0, 0, 7);
        due("TIME", x.now(3), 5);
        minutesAre(x, 0, 0, 3, 0, 2);
        due("cards come, but none is needed", x.cards(1, 2), 1);
        stationIs(x, 1, WORKS, 0, 0, 11);
        CardLoops inner = Checks.works("works 9;station 1 0;station 2 0;station 9 0;loop 1 2 1;");
        inner.pass(5);
        stationIs(inner, 1, HELD, -1, 4, -1);
        due("a card comes to who waits", inner.cards(1, 2), 0);
        stationIs(inner, 1, WORKS, 0, 3, 7);
        due("a card of another LOOP does not help", inner.cards(0, 10), 4);
        stationIs(inner, 1, WORKS, 0, 3, 7);
    }

    private static void starved() {
        sentence("An idle STATION is STARVED (0), if nobody waits there");
        CardLoops x = Checks.works("works 9;station 5 0;station 1 0;station 20 0;loop 1 2 1;");
        stationIs(x, 1, STARVED, -1, 0, -1);
        x.pass(6);
        due("its LOOP has no card FREE", x.loop(1, 3), 0);
        stationIs(x, 1, STARVED, -1, 0, -1);
        minutesAre(x, 1, 5, 0, 0, 1);
        x.pass(4);
        stationIs(x, 1, HELD, -1, 1, -1);
        minutesAre(x, 1, 9, 0, 0, 1);
        x.pass(1);
        minutesAre(x, 1, 9, 1, 0, 1);
    }

    private static void held() {
        sentence("else HELD (1; STATION 0 always)");
        CardLoops x = Checks.works("works 9;station 1 0;station 1 0;station 4 0;loop 1 2 1;");
        x.pass(2);
        stationIs(x, 1, HELD, -1, 1, -1);
        stationIs(x, 2, WORKS, 0, 0, 6);
        x.pass(3);
        stationIs(x, 1, HELD, -1, 4, -1);
        minutesAre(x, 1, 1, 3, 0, 1);
        x.pass(1);
        stationIs(x, 1, WORKS, 0, 4, 7);
        stationIs(x, 2, STARVED, -1, 0, -1);
        minutesAre(x, 1, 1, 4, 0, 1);
    }

    private static void stationZeroIsHeld() {
        sentence("STATION 0 always");
        CardLoops x = Checks.works("works 1;station 2 0;station 3 0;");
        x.pass(2);
        stationIs(x, 0, HELD, -1, 0, -1);
        x.pass(3);
        stationIs(x, 0, WORKS, 0, 0, 7);
        minutesAre(x, 0, 0, 3, 0, 2);
        minutesAre(x, 1, 2, 0, 0, 3);
        x.pass(95);
        minutesAre(x, 0, 0, 60, 0, 40);
    }

    private static void setsUpOrWorks() {
        sentence("one that is not SETS UP (2), or WORKS (3).");
        CardLoops x = Checks.works("works 1;station 2 3;run 1 1;run 2 1;");
        int[] states = {WORKS, WORKS, SETS_UP, SETS_UP, SETS_UP, WORKS, WORKS, SETS_UP};
        for (int minute = 0; minute < states.length; minute++) {
            due("state at " + minute, x.station(0, 2), states[minute]);
            x.pass(1);
        }
        minutesAre(x, 0, 0, 0, 4, 4);
        due("SETS UP has a PART", x.station(0, 3), 1);
    }

    private static void lead() {
        sentence("LEAD of a PART: from when it was begun at STATION 0 till it is OUT.");
        CardLoops x = Checks.works("works 1;station 2 3;station 1 4;run 0 1;run 1 1;run 1 1;");
        int[] outs = {3, 13, 16, 26};
        int[] leads = {3, 10, 3, 10};
        for (int i = 0; i < outs.length; i++) {
            due("OUT", x.when(1, 0), outs[i]);
            due("LEAD to come", x.when(1, 1), leads[i]);
            x.step();
            due("none since", x.now(4), i);
            x.step();
            due("LEAD", x.now(6), leads[i]);
            due("longest LEAD", x.now(7), i == 0 ? 3 : 10);
        }
        CardLoops full = Checks.works("works 20;station 1 0;station 60 0;");
        full.pass(999);
        due("the sixteenth was begun at 15", full.now(6), 961 - 15);
        due("no PART was longer", full.now(7), 946);
        full.pass(999);
        due("one that was begun with a card that came back", full.now(6), 1200);
        due("the longest so far", full.now(7), 1200);
    }
}
