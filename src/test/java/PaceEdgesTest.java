/** "==== 3.", sentence by sentence: PACE, RINGS, BOUND, NEEDS, LEAST, LONGER at their boundaries. */
public final class PaceEdgesTest {
    private static final Checks CHECKS = new Checks();

    public static void main(String[] args) {
        asFromTimeZero();
        withCardsAsTheyAreNow();
        allThatGoesOn();
        asSoonAsItIsJustAsItWas();
        lowestTerms();
        withinTheFirst1500();
        ringsOfStations();
        ringsOfLoops();
        tight();
        likeRings();
        boundInLowestTerms();
        noPaceIsAbove();
        ofOneKind();
        needs();
        leastFrom1To20();
        leastAllElseAsItIs();
        leastIsByTrying();
        leastAtLeast();
        longerFrom1To5();
        longerCounts();
        CHECKS.close();
    }

    private static void sentence(String quote) {
        CHECKS.sentence("==== 3.", quote);
    }

    private static void due(String call, long got, long want) {
        CHECKS.due(call, got, want);
    }

    private static void paceIs(CardLoops x, int parts, int minutes) {
        due("pace(0)", x.pace(0), parts);
        due("pace(1)", x.pace(1), minutes);
    }

    private static void paceIs(String text, int parts, int minutes) {
        CardLoops x = Checks.works(text);
        due("pace(0) of " + text, x.pace(0), parts);
        due("pace(1) of " + text, x.pace(1), minutes);
    }

    private static void boundIs(CardLoops x, int parts, int minutes, int tight) {
        due("bound(0)", x.bound(0), parts);
        due("bound(1)", x.bound(1), minutes);
        due("bound(2)", x.bound(2), tight);
    }

    private static void boundIs(String text, int parts, int minutes, int tight) {
        CardLoops x = Checks.works(text);
        due("bound(0) of " + text, x.bound(0), parts);
        due("bound(1) of " + text, x.bound(1), minutes);
        due("bound(2) of " + text, x.bound(2), tight);
    }

    private static void asFromTimeZero() {
        sentence("PACE: as from TIME 0");
        CardLoops x = Checks.works("works 3;station 2 4;run 1 2;run 2 1;");
        for (int i = 0; i < 6; i++) {
            paceIs(x, 3, 14);
            x.pass(5);
        }
        due("TIME goes on where it was", x.now(3), 30);
        due("PARTS that are OUT", x.now(4), 7);
        Checks.tell(x, "works 2;station 3 0;station 5 0;");
        paceIs(x, 1, 5);
        Checks.tell(x, "works 1;station 3 0;station 5 0;?");
        paceIs(x, 1, 5);
        due("no works", x.text(), 0);
        paceIs(x, -1, -1);
    }

    private static void withCardsAsTheyAreNow() {
        sentence("with cards as they are now");
        CardLoops x = Checks.works("works 2;station 3 0;station 5 0;loop 1 1 2;");
        paceIs(x, 1, 5);
        x.cards(0, 1);
        paceIs(x, 1, 8);
        x.undo();
        paceIs(x, 1, 5);
        x.anew();
        x.cards(1, 1);
        paceIs(x, 1, 5);
        x.cards(0, 1);
        x.anew();
        paceIs(x, 1, 8);
        due("refused", x.cards(0, 1), -1);
        paceIs(x, 1, 8);
        due("cards come", x.cards(0, 20) >= 0 ? 1 : 0, 1);
        paceIs(x, 1, 5);
    }

    private static void allThatGoesOn() {
        sentence("behind each ROUND by which a PART is OUT all that goes on is looked at (for each STATION how long "
            + "until it is through, and until it is set up, the KIND there and that before;");
        paceIs("works 2;station 7 0;station 7 0;station 1 0;", 2, 15);
        paceIs("works 4;station 2 8;station 3 7;run 0 2;run 1 1;", 3, 23);
        // Up to 60 minutes of SETUP and 60 of TIME may be left.
        paceIs("works 5;station 29 56;station 7 8;run 1 1;run 2 3;", 1, 57);
        paceIs("works 6;station 20 57;station 2 7;run 1 3;run 2 2;", 5, 214);
        sentence("KINDS that wait; cards FREE;");
        // Up to 19 may wait.
        paceIs("works 19;station 1 8;station 4 0;station 7 1;run 1 2;run 3 10;", 6, 43);
        paceIs("works 20;station 4 9;station 9 0;station 7 6;run 2 3;run 1 1;", 1, 10);
        paceIs("works 5;station 1 9;station 7 3;station 7 4;run 2 4;run 3 1;", 5, 43);
        paceIs("works 5;station 1 6;station 7 8;station 8 7;run 0 2;run 0 4;run 3 2;", 4, 39);
        sentence("the place in RUNS; no TIMES)");
        paceIs("works 4;station 6 1;run 1 4;run 3 3;", 7, 44);
        paceIs("works 1;station 1 60;run 1 20;run 2 1;", 7, 47);
        paceIs("works 1;station 1 60;" + Checks.times("run 1 20;", 5) + "run 2 20;", 1, 2);
    }

    private static void asSoonAsItIsJustAsItWas() {
        sentence("as soon as it is just as it was behind an earlier one, PARTS that came OUT since by minutes since");
        // The first PARTS come OUT slower, or faster, than later ones: only what comes again counts.
        paceIs("works 20;station 1 0;station 60 0;", 1, 60);
        paceIs("works 20;station 60 0;station 1 0;", 1, 60);
        paceIs("works 2;station 1 0;station 1 0;station 1 0;", 2, 3);
        paceIs("works 1;station 1 60;run 1 1;", 1, 1);
        paceIs("works 1;station 1 60;run 1 1;run 2 1;", 1, 61);
        // An earlier one may be long ago, with many others between.
        paceIs("works 20;station 6 3;station 8 58;run 2 2;run 3 2;", 1, 37);
        paceIs("works 12;station 33 24;station 35 0;run 3 12;run 1 15;", 1, 35);
    }

    private static void lowestTerms() {
        sentence("in lowest terms. (It comes");
        paceIs("works 1;station 1 0;run 0 20;run 0 20;run 0 20;", 1, 1);
        paceIs("works 2;station 2 0;station 2 0;station 2 0;", 1, 3);
        paceIs("works 20;station 1 60;run 0 20;run 1 20;", 1, 4);
        paceIs("works 20;station 2 60;run 0 20;run 1 20;", 1, 5);
        paceIs("works 4;station 6 0;station 10 0;station 2 0;loop 0 2 3;", 1, 10);
    }

    private static void withinTheFirst1500() {
        sentence("NONE, if not within the first 1500 PARTS that are OUT.)");
        paceIs("works 12;station 43 22;station 45 4;run 1 6;run 3 15;", 21, 953);
        paceIs("works 20;station 41 33;station 43 19;run 2 11;run 3 8;", -1, -1);
        CardLoops within = Checks.works("works 12;station 38 23;station 39 8;run 2 17;run 3 3;");
        due("longer by 2, behind the 1500th: parts", within.longer(2, 0), 5);
        due("longer by 2, behind the 1500th: minutes", within.longer(2, 1), 197);
        CardLoops outside = Checks.works("works 14;station 44 14;station 44 37;run 1 12;run 2 12;");
        due("longer by 5, behind the 1501st: parts", outside.longer(5, 0), -1);
        due("longer by 5, behind the 1501st: minutes", outside.longer(5, 1), -1);
        CardLoops some = Checks.works("works 12;station 4 7;station 4 8;run 3 2;run 2 18;");
        due("by 1 it is so: parts", some.longer(1, 0), 5);
        due("by 5 it is not, whatever was found before: parts", some.longer(5, 0), -1);
        due("by 5 it is not, whatever was found before: minutes", some.longer(5, 1), -1);
    }

    private static void ringsOfStations() {
        sentence("RINGS: each STATION: TIME minutes, 1 card");
        boundIs("works 20;station 60 0;", 1, 60, 100);
        boundIs("works 20;station 1 0;", 1, 1, 100);
        boundIs("works 20;station 7 60;station 9 0;station 8 60;", 1, 9, 101);
        boundIs("works 20;station 1 0;station 2 0;station 3 0;station 4 0;station 5 0;station 6 0;", 1, 6, 105);
    }

    private static void ringsOfLoops() {
        sentence("each LOOP: TIMES of its STATIONS together, K cards");
        boundIs("works 1;station 7 60;station 9 60;station 8 60;", 1, 24, 0);
        boundIs("works 20;station 7 0;station 9 0;station 8 0;loop 0 1 1;", 1, 16, 1);
        boundIs("works 20;station 7 0;station 9 0;station 8 0;loop 1 2 1;", 1, 17, 1);
        boundIs("works 20;station 7 0;station 9 0;station 8 0;loop 1 1 1;", 1, 9, 1);
        boundIs("works 1;" + Checks.times("station 60 0;", 6), 1, 360, 0);
        boundIs("works 5;" + Checks.times("station 60 0;", 6), 1, 72, 0);
        boundIs("works 7;" + Checks.times("station 60 0;", 6), 1, 60, 100);
    }

    private static void tight() {
        sentence("TIGHT: the RING with the most minutes by a card");
        boundIs("works 3;station 10 0;station 10 0;station 11 0;", 1, 11, 102);
        boundIs("works 3;station 10 0;station 11 0;station 13 0;", 1, 13, 102);
        boundIs("works 2;station 10 0;station 11 0;station 10 0;", 2, 31, 0);
        boundIs("works 20;station 9 0;station 9 0;station 9 0;loop 0 2 2;loop 0 1 1;", 1, 18, 2);
        boundIs("works 20;station 9 0;station 9 0;station 9 0;loop 0 1 1;loop 0 2 2;", 1, 18, 1);
    }

    private static void likeRings() {
        sentence("of like ones LOOPS by numbers, then STATIONS");
        String three = "station 4 0;station 4 0;station 4 0;";
        boundIs("works 3;" + three, 1, 4, 0);
        boundIs("works 4;" + three, 1, 4, 100);
        boundIs("works 4;" + three + "loop 2 2 1;", 1, 4, 1);
        boundIs("works 4;" + three + "loop 2 2 2;loop 1 2 2;loop 0 1 2;", 1, 4, 2);
        boundIs("works 4;" + three + "loop 2 2 2;loop 1 2 3;loop 0 1 3;loop 0 2 3;", 1, 4, 4);
        boundIs("works 3;" + three + "loop 0 2 3;loop 0 0 1;", 1, 4, 0);
        boundIs("works 20;station 3 0;station 4 0;station 4 0;", 1, 4, 101);
        boundIs("works 20;station 3 0;station 4 0;station 5 0;loop 0 1 1;loop 0 1 1;", 1, 7, 1);
    }

    private static void boundInLowestTerms() {
        sentence("BOUND: its cards by its minutes, in lowest terms");
        boundIs("works 2;station 4 0;station 4 0;station 4 0;", 1, 6, 0);
        boundIs("works 2;station 4 0;station 4 0;station 3 0;", 2, 11, 0);
        boundIs("works 3;station 4 0;station 4 0;station 4 0;station 4 0;", 3, 16, 0);
        boundIs("works 5;" + Checks.times("station 59 0;", 5) + "station 58 0;", 5, 353, 0);
        CardLoops x = Checks.works("works 2;station 4 0;station 4 0;station 4 0;");
        x.cards(0, 3);
        boundIs(x, 1, 4, 0);
        x.cards(0, 4);
        boundIs(x, 1, 4, 100);
        x.undo();
        x.undo();
        boundIs(x, 1, 6, 0);
    }

    private static final String[] WORKS = {
        "works 2;station 3 2;station 5 1;",
        "works 3;station 4 9;station 4 0;station 4 3;loop 1 2 1;",
        "works 20;station 4 9;station 6 0;station 5 3;loop 0 1 2;loop 1 2 3;",
        "works 5;station 7 1;station 7 1;station 7 1;station 1 9;loop 0 2 2;loop 2 3 1;",
        "works 4;station 60 60;station 59 1;station 58 3;station 57 0;station 56 9;station 55 2;",
        "works 9;station 1 0;station 2 0;station 3 0;station 2 0;loop 1 3 2;loop 0 2 3;loop 3 3 1;",
    };

    private static void noPaceIsAbove() {
        sentence("(no PACE is above it;");
        for (String works : WORKS) {
            CardLoops x = Checks.works(works + "run 1 2;run 2 3;run 3 1;");
            long parts = x.pace(0);
            due("PACE is so, " + works, parts >= 1 ? 1 : 0, 1);
            due("not above BOUND, " + works, parts * x.bound(1) <= (long) x.bound(0) * x.pace(1) ? 1 : 0, 1);
        }
        CardLoops turns = Checks.works("works 1;station 2 4;run 1 1;run 2 1;");
        paceIs(turns, 1, 6);
        boundIs(turns, 1, 2, 0);
    }

    private static void ofOneKind() {
        sentence("of one KIND PACE is just that)");
        for (String works : WORKS) {
            CardLoops none = Checks.works(works);
            paceIs(none, none.bound(0), none.bound(1));
            CardLoops one = Checks.works(works + "run 3 7;run 3 20;");
            paceIs(one, one.bound(0), one.bound(1));
        }
    }

    private static void needs() {
        sentence("NEEDS of a LOOP: the fewest cards by which its own RING does not forbid it.");
        CardLoops x = Checks.works("works 1;station 3 60;station 5 60;station 60 0;loop 0 1 1;loop 1 1 9;");
        due("8 minutes, 1 by 8", x.needs(1, 1, 8), 1);
        due("8 minutes, 1 by 7", x.needs(1, 1, 7), 2);
        due("8 minutes, 1 by 4", x.needs(1, 1, 4), 2);
        due("8 minutes, 1 by 3", x.needs(1, 1, 3), 3);
        due("8 minutes, 99 by 99", x.needs(1, 99, 99), 8);
        due("8 minutes, 99 by 98", x.needs(1, 99, 98), 9);
        due("8 minutes, 98 by 99", x.needs(1, 98, 99), 8);
        due("8 minutes, 1 by 99", x.needs(1, 1, 99), 1);
        due("5 minutes, 1 by 5", x.needs(2, 1, 5), 1);
        due("5 minutes, 20 by 5", x.needs(2, 20, 5), 20);
        due("5 minutes, 21 by 5", x.needs(2, 21, 5), 21);
        due("68 minutes, 1 by 68", x.needs(0, 1, 68), 1);
        due("68 minutes, 1 by 67", x.needs(0, 1, 67), 2);
    }

    private static final String TURNS = "works 7;station 1 8;station 1 5;station 1 8;station 1 7;run 1 20;run 2 12;";

    private static void leastFrom1To20() {
        sentence("LEAST: the fewest cards (1 to 20) of it");
        CardLoops one = Checks.works("works 9;station 3 0;station 5 0;");
        due("1 is enough", one.least(0, 1, 8), 1);
        due("1 is not enough", one.least(0, 1, 7), 2);
        due("20 are not enough", one.least(0, 1, 4), -2);
        // PACE by 20 cards is 8 by 13; by 21 it would be 2 by 3.
        CardLoops most = Checks.works(TURNS);
        due("20 are needed", most.least(0, 8, 13), 20);
        due("21 would be needed", most.least(0, 2, 3), -2);
        due("K stays", most.loop(0, 2), 7);
        CardLoops twenty = Checks.works(TURNS.replace("works 7", "works 20"));
        paceIs(twenty, 8, 13);
    }

    private static void leastAllElseAsItIs() {
        sentence("all else as it is, by which PACE is n by m at least");
        CardLoops x = Checks.works("works 3;station 3 0;station 5 0;station 4 0;loop 0 1 1;loop 1 2 9;");
        due("LOOP 1 binds LOOP 0", x.least(0, 1, 5), -2);
        due("LOOP 1 itself", x.least(1, 1, 5), 2);
        due("LOOP 2 can't help", x.least(2, 1, 5), -2);
        due("LOOP 2 for what LOOP 1 allows", x.least(2, 1, 8), 2);
        x.cards(1, 2);
        due("LOOP 0 with cards as they are now", x.least(0, 1, 5), 3);
        x.pass(20);
        due("not from the TIME now", x.least(0, 1, 5), 3);
        due("TIME stays", x.now(3), 20);
        x.undo();
        x.undo();
        due("LOOP 1 binds it again", x.least(0, 1, 5), -2);
    }

    private static void leastIsByTrying() {
        sentence("LEAST: the fewest cards (1 to 20) of it, all else as it is, by which PACE is");
        CardLoops turns = Checks.works("works 1;station 2 4;station 2 4;run 1 1;run 2 1;");
        due("by the ring", turns.needs(0, 1, 6), 1);
        due("by trying", turns.least(0, 1, 6), 2);
        due("not at all", turns.least(0, 1, 5), -2);
        CardLoops never = Checks.works("works 12;station 58 55;station 19 17;station 58 57;station 22 1;"
            + "loop 1 2 9;run 2 19;run 0 7;run 1 14;");
        due("PACE is not so with 12 cards", never.pace(0), -1);
        due("few cards, by which it is so", never.least(0, 1, 99), 2);
    }

    private static void leastAtLeast() {
        sentence("PACE is n by m at least");
        CardLoops x = Checks.works("works 2;station 7 0;station 7 0;station 1 0;");
        paceIs(x, 2, 15);
        due("just PACE", x.least(0, 2, 15), 2);
        due("a little more", x.least(0, 3, 22), 3);
        due("a little less", x.least(0, 3, 23), 2);
        due("like PACE, not in lowest terms", x.least(0, 12, 90), 2);
        due("what the STATIONS allow", x.least(0, 14, 98), 3);
        due("more than that", x.least(0, 14, 97), -2);
    }

    private static void longerFrom1To5() {
        sentence("LONGER by f (1 to 5)");
        CardLoops x = Checks.works("works 1;station 1 10;run 1 1;run 2 1;");
        due("f 0", x.longer(0, 1), -1);
        due("f 1", x.longer(1, 1), 11);
        due("f 1 is PACE", x.pace(1), 11);
        due("f 5", x.longer(5, 0), 1);
        due("f 5", x.longer(5, 1), 3);
        due("f 6", x.longer(6, 1), -1);
    }

    private static void longerCounts() {
        sentence("PACE, if each COUNT were f times as much");
        CardLoops x = Checks.works("works 1;station 1 10;run 1 1;run 2 3;");
        int[][] want = {{1, 6}, {2, 7}, {3, 8}, {4, 9}, {1, 2}};
        for (int f = 1; f <= 5; f++) {
            due("longer(" + f + ", 0)", x.longer(f, 0), want[f - 1][0]);
            due("longer(" + f + ", 1)", x.longer(f, 1), want[f - 1][1]);
        }
        due("COUNTS stay", x.next(3), 1);
        CardLoops alike = Checks.works("works 1;station 1 10;run 1 20;run 1 20;");
        due("one KIND", alike.longer(5, 1), 1);
        CardLoops most = Checks.works("works 1;station 1 10;" + Checks.times("run 1 20;run 2 20;", 3));
        due("COUNT 100: parts", most.longer(5, 0), 10);
        due("COUNT 100: minutes", most.longer(5, 1), 11);
    }
}
