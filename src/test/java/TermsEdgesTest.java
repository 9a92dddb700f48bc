/** "Terms", first part, sentence by sentence: the last that is as told, the first that is not, and where a FAULT is. */
public final class TermsEdgesTest {
    private static final Checks CHECKS = new Checks();
    private static final String TERMS = "Terms";
    /** Twenty bytes. */
    private static final String ONE = "works 1;station 1 0;";
    private static final String SIX = "works 1;" + Checks.times("station 1 0;", 6);
    private static final String FOUR_LOOPS = ONE + Checks.times("loop 0 0 1;", 4);
    private static final String SIX_RUNS = ONE + Checks.times("run 0 1;", 6);

    public static void main(String[] args) {
        blanks();
        smallLetters();
        digits();
        theSign();
        wordsAndNumbersGoOn();
        notAsToldIsNoToken();
        atMost400Bytes();
        linesEndWithTheSign();
        theFirstLine();
        cardsOfLoop0();
        loop0GoesOverAll();
        theOtherLines();
        stationTime();
        stationSetup();
        sixStations();
        loopFromAndTo();
        loopCards();
        fourLoops();
        runKind();
        runCount();
        sixRuns();
        thereMustBeAStation();
        theFirstFault();
        ofOneTokenTheLeast();
        noTokenOrOneThatCannotCome();
        theEnd();
        theEndWithoutStation();
        at400();
        readWholeAheadOf400();
        numbersNotAsTold();
        tooMany();
        CHECKS.close();
    }

    private static void sentence(String quote) {
        CHECKS.sentence(TERMS, quote);
    }

    private static void due(String call, long got, long want) {
        CHECKS.due(call, got, want);
    }

    private static CardLoops fine(String text, int lines) {
        CardLoops x = new CardLoops();
        due("text '" + text + "'", Checks.tell(x, text), lines);
        due("fault of '" + text + "'", x.fault(), 0);
        due("tape behind '" + text + "'", x.now(9), 0);
        return x;
    }

    /** Told to a works that has gone on: the answer, the kind, and that all stays. */
    private static void fails(String text, int place, int kind) {
        CardLoops x = Checks.works("works 2;station 3 0;station 5 0;loop 1 1 4;run 2 3;");
        x.pass(7);
        Checks.put(x, text);
        String before = Twins.glance(x);
        int bytes = x.now(9);
        due("text '" + text + "'", x.text(), -1 - place);
        due("fault of '" + text + "'", x.fault(), kind);
        String emptied = before.replace("tape " + bytes + " ", "tape 0 ");
        CHECKS.same("all stays but the tape, behind '" + text + "'", Twins.glance(x), emptied);
        due("undo behind '" + text + "'", x.undo(), 0);
    }

    private static boolean isLumpSign(int sign) {
        return sign >= 'a' && sign <= 'z' || sign >= '0' && sign <= '9';
    }

    private static void blanks() {
        sentence("TOKENS of a text, with blanks (32, 10) between them or not");
        fine("works 1;station 1 0;", 2);
        fine("works 1 ; station 1 0 ; ", 2);
        fine("\n works\n\n1 \n;\nstation  1\n0;\n", 2);
        fine(" ", 0);
        fine("\n", 0);
        for (int sign = 0; sign < 256; sign++) {
            String text = "works" + (char) sign + "1;station 1 0;";
            if (sign == 32 || sign == 10) {
                fine(text, 2);
            } else {
                fails(text, isLumpSign(sign) ? 0 : 5, 1);
            }
        }
        fails("wor ks 1;", 0, 1);
        fails("works 1;station 1 0;r un 0 1;", 20, 1);
    }

    private static void smallLetters() {
        sentence("WORDS: small letters");
        fails("worksa 1;", 0, 1);
        fails("worksz 1;", 0, 1);
        fails("works` 1;", 5, 1);
        fails("works{ 1;", 5, 1);
        fails("Works 1;", 0, 1);
        fails("worksA 1;", 5, 1);
        fails("WORKS 1;", 0, 1);
        fails("work 1;", 0, 1);
        fails("orks 1;", 0, 1);
        String[] words = {"works", "station", "loop", "run"};
        for (String word : words) {
            String ahead = word.equals("works") ? "" : ONE;
            for (int i = 0; i < word.length(); i++) {
                fails(ahead + word.substring(0, i) + "x" + word.substring(i + 1) + " 1 1 1;", ahead.length(), 1);
                fails(ahead + word.substring(0, i) + word.substring(i + 1) + " 1 1 1;", ahead.length(), 1);
            }
        }
        fails(ONE + "Run 0 1;", 20, 1);
        fails(ONE + "runs 0 1;", 20, 1);
        fails(ONE + "ru 0 1;", 20, 1);
        fails(ONE + "loops 0 0 1;", 20, 1);
        fails(ONE + "stations 1 1;", 20, 1);
        fails(ONE + "statio 1 1;", 20, 1);
    }

    private static void digits() {
        sentence("NUMBERS: 1 or 2 digits");
        due("one digit", fine("works 9;station 1 0;", 2).loop(0, 2), 9);
        due("two digits", fine("works 09;station 1 0;", 2).loop(0, 2), 9);
        for (int digit = 0; digit <= 9; digit++) {
            due("1 and a digit", fine("works 1" + digit + ";station 1 0;", 2).loop(0, 2), 10 + digit);
        }
        due("00 is a NUMBER", fine("works 1;station 1 00;", 2).station(0, 1), 0);
        fails("works 009;station 1 0;", 6, 1);
        fails("works 100;station 1 0;", 6, 1);
        fails("works 0000000009;station 1 0;", 6, 1);
        fails("works 1;station 1 000;", 18, 1);
        fails("works 1/;station 1 0;", 7, 1);
        fails("works 1:;station 1 0;", 7, 1);
        fails("works +1;station 1 0;", 6, 1);
        fails("works -1;station 1 0;", 6, 1);
        fails("works 1.0;station 1 0;", 7, 1);
        fails("works 1" + (char) 178 + ";station 1 0;", 7, 1);
    }

    private static void theSign() {
        sentence("the sign ;");
        fine("works 1;station 1 0;", 2);
        fails("works 1:station 1 0;", 7, 1);
        fails("works 1<station 1 0;", 7, 1);
        fails("works 1,station 1 0;", 7, 1);
        fails("works 1" + (char) (59 + 128) + "station 1 0;", 7, 1);
    }

    private static void wordsAndNumbersGoOn() {
        sentence("(A WORD, NUMBER goes on as long as small letters and digits do;");
        fails("works1;station 1 0;", 0, 1);
        fails("works 1station 1 0;", 6, 1);
        fails("works 1;station1 0;", 8, 1);
        fails("works 1;1station 1 0;", 8, 1);
        fails("works 1;station 1 0run 0 1;", 18, 1);
        fine("works 1;station 1 0;run 0 1;", 3);
    }

    private static void notAsToldIsNoToken() {
        sentence("what is not as told is no TOKEN.)");
        fails("works 21;", 6, 2);
        fails("works 210;", 6, 1);
        fails("works 21a;", 6, 1);
        fails("works a21;", 6, 1);
        fails(SIX + "station", 80, 3);
        fails(SIX + "station7", 80, 1);
        fails(SIX + "7station", 80, 1);
        fails("#", 0, 1);
        fails((char) 0 + "works 1;", 0, 1);
        fails((char) 255 + "", 0, 1);
    }

    private static void atMost400Bytes() {
        sentence("A TEXT has at most 400 bytes");
        due("400 bytes", fine(ONE + Checks.times(" ", 380), 2).now(0), 1);
        fails(ONE + Checks.times(" ", 381), 400, 1);
        due("400 with a LINE at the end", fine(ONE + Checks.times("\n", 372) + "run 0 1;", 3).now(2), 1);
        fails(ONE + Checks.times("\n", 373) + "run 0 1;", 400, 1);
        due("400 blanks", fine(Checks.times(" ", 400), 0).now(0), 0);
        fails(Checks.times(" ", 401), 400, 1);
        fails(Checks.times(" ", 440), 400, 1);
    }

    private static void linesEndWithTheSign() {
        sentence("{ LINE ; }");
        fine("", 0);
        fine(ONE, 2);
        fails("works 1;station 1 0", 19, 1);
        fails("works 1 station 1 0;", 8, 1);
        fails(ONE + ";", 20, 1);
        fails("works 1;;station 1 0;", 8, 1);
        fails(";", 0, 1);
        fine(SIX + Checks.times("loop 0 0 1;", 4) + Checks.times("run 0 1;", 6), 17);
    }

    private static void theFirstLine() {
        sentence("The first LINE: 'works' K");
        fine(ONE, 2);
        fails("station 1 0;works 1;", 0, 1);
        fails("loop 0 0 1;", 0, 1);
        fails("run 0 1;works 1;station 1 0;", 0, 1);
        fails("1;", 0, 1);
        fails("works;", 5, 1);
        fails("works works 1;", 6, 1);
        fails("works 1 1;", 8, 1);
    }

    private static void cardsOfLoop0() {
        sentence("(1 to 20: cards of LOOP 0, which goes over all STATIONS)");
        fails("works 0;station 1 0;", 6, 2);
        due("K 1", fine("works 1;station 1 0;", 2).loop(0, 2), 1);
        due("K 20", fine("works 20;station 1 0;", 2).loop(0, 2), 20);
        fails("works 21;station 1 0;", 6, 2);
        fails("works 99;station 1 0;", 6, 2);
        fails("works 00;station 1 0;", 6, 2);
    }

    private static void loop0GoesOverAll() {
        sentence("which goes over all STATIONS");
        for (int stations = 1; stations <= 6; stations++) {
            CardLoops x = fine("works 3;" + Checks.times("station 1 0;", stations), 1 + stations);
            due("FROM", x.loop(0, 0), 0);
            due("TO of " + stations, x.loop(0, 1), stations - 1);
        }
        CardLoops x = fine("works 3;run 0 1;station 1 0;loop 0 0 5;station 1 0;", 5);
        due("TO with a LOOP between", x.loop(0, 1), 1);
        due("TO of that LOOP", x.loop(1, 1), 0);
    }

    private static void theOtherLines() {
        sentence("The others: 'station' TIME SETUP");
        fails("works 1;works 1;station 1 0;", 8, 1);
        fails(ONE + "works 1;", 20, 1);
        fails(ONE + "1 station;", 20, 1);
        fails("works 1;station;", 15, 1);
        fails("works 1;station 1;", 17, 1);
        fails("works 1;station 1 0 0;", 20, 1);
        fails(ONE + "loop;", 24, 1);
        fails(ONE + "loop 0;", 26, 1);
        fails(ONE + "loop 0 0;", 28, 1);
        fails(ONE + "loop 0 0 1 1;", 31, 1);
        fails(ONE + "run;", 23, 1);
        fails(ONE + "run 0;", 25, 1);
        fails(ONE + "run 0 1 1;", 28, 1);
        due("runs and loops in any order", fine("works 1;run 0 1;station 1 0;run 1 1;loop 0 0 1;run 2 1;", 6).now(2), 3);
    }

    private static void stationTime() {
        sentence("(1 to 60, 0 to 60 minutes; numbered from 0, 6 at most)");
        fails("works 1;station 0 0;", 16, 2);
        due("TIME 1", fine("works 1;station 1 0;", 2).station(0, 0), 1);
        due("TIME 60", fine("works 1;station 60 0;", 2).station(0, 0), 60);
        fails("works 1;station 61 0;", 16, 2);
        fails("works 1;station 99 0;", 16, 2);
    }

    private static void stationSetup() {
        sentence("0 to 60 minutes");
        due("SETUP 0", fine("works 1;station 1 0;", 2).station(0, 1), 0);
        due("SETUP 60", fine("works 1;station 1 60;", 2).station(0, 1), 60);
        fails("works 1;station 1 61;", 18, 2);
        fails("works 1;station 1 99;", 18, 2);
    }

    private static void sixStations() {
        sentence("numbered from 0, 6 at most");
        CardLoops x = fine("works 1;station 10 1;station 11 2;station 12 3;station 13 4;station 14 5;station 15 6;", 7);
        due("STATIONS", x.now(0), 6);
        for (int station = 0; station < 6; station++) {
            due("TIME by number", x.station(station, 0), 10 + station);
            due("SETUP by number", x.station(station, 1), 1 + station);
        }
        due("no STATION 6", Twins.throwsNoSuch(x, 6, 0), 1);
        fails(SIX + "station 1 0;", 80, 3);
    }

    private static void loopFromAndTo() {
        sentence("(STATIONS told ahead, TO no less than FROM;");
        fails("works 1;loop 0 0 1;station 1 0;", 13, 2);
        fine(ONE + "loop 0 0 1;", 3);
        fails(ONE + "loop 1 1 1;station 1 0;", 25, 2);
        fails(ONE + "loop 0 1 1;station 1 0;", 27, 2);
        CardLoops x = fine(SIX + "loop 5 5 1;loop 0 5 1;loop 4 5 1;", 10);
        due("FROM 5", x.loop(1, 0), 5);
        due("TO 5", x.loop(1, 1), 5);
        due("FROM 0", x.loop(2, 0), 0);
        due("FROM 4", x.loop(3, 0), 4);
        fails(SIX + "loop 6 6 1;", 85, 2);
        fails(SIX + "loop 5 6 1;", 87, 2);
        fails(SIX + "loop 5 4 1;", 87, 2);
        fails(SIX + "loop 1 0 1;", 87, 2);
        fails(SIX + "loop 99 0 1;", 85, 2);
    }

    private static void loopCards() {
        sentence("1 to 20; numbered from 1, 4 at most)");
        fails(ONE + "loop 0 0 0;", 29, 2);
        due("K 1", fine(ONE + "loop 0 0 1;", 3).loop(1, 2), 1);
        due("K 20", fine(ONE + "loop 0 0 20;", 3).loop(1, 2), 20);
        fails(ONE + "loop 0 0 21;", 29, 2);
        fails(ONE + "loop 0 0 99;", 29, 2);
    }

    private static void fourLoops() {
        sentence("numbered from 1, 4 at most");
        CardLoops x = fine("works 9;station 1 0;loop 0 0 2;loop 0 0 3;loop 0 0 4;loop 0 0 5;", 6);
        due("LOOPS", x.now(1), 5);
        for (int loop = 1; loop <= 4; loop++) {
            due("K by number", x.loop(loop, 2), 1 + loop);
        }
        due("no LOOP 5", x.loop(5, 2), -1);
        fails(FOUR_LOOPS + "loop 0 0 1;", 64, 3);
    }

    private static void runKind() {
        sentence("'run' KIND COUNT (0 to 3, 1 to 20; 6 at most)");
        due("KIND 0", fine(ONE + "run 0 1;", 3).next(0), 0);
        due("KIND 3", fine(ONE + "run 3 1;", 3).next(0), 3);
        fails(ONE + "run 4 1;", 24, 2);
        fails(ONE + "run 99 1;", 24, 2);
    }

    private static void runCount() {
        sentence("(0 to 3, 1 to 20; 6 at most)");
        fails(ONE + "run 0 0;", 26, 2);
        due("COUNT 1: the one that is begun is all", fine(ONE + "run 1 1;run 2 1;", 4).next(0), 2);
        CardLoops x = fine(ONE + "run 1 20;run 2 1;", 4);
        due("COUNT 20: the last of them", x.next(18), 1);
        due("COUNT 20: behind them", x.next(19), 2);
        fails(ONE + "run 0 21;", 26, 2);
        fails(ONE + "run 0 99;", 26, 2);
    }

    private static void sixRuns() {
        sentence("6 at most). There must be");
        due("six", fine(SIX_RUNS, 8).now(2), 6);
        fails(SIX_RUNS + "run 0 1;", 68, 3);
    }

    private static void thereMustBeAStation() {
        sentence("There must be a STATION.");
        fine(ONE, 2);
        fails("works 1;", 8, 1);
        fails("works 1;run 0 1;", 16, 1);
        fine("", 0);
    }

    private static void theFirstFault() {
        sentence("FAULTS, the first along the text");
        fails("works 0;station 0 0;", 6, 2);
        fails("works 0;bad;", 6, 2);
        fails("works 0;", 6, 2);
        fails("bad 0;", 0, 1);
        fails("works 1;station 61 61;", 16, 2);
        fails("works 1;station 60 61;", 19, 2);
        fails(SIX + "run 4 1;station 1 0;", 84, 2);
        fails(SIX + "station 0 0;", 80, 3);
        fails(SIX + "station 1 bad;", 80, 3);
        fails(ONE + "loop 1 0 0;", 25, 2);
        fails(ONE + "#" + Checks.times(" ", 400), 20, 1);
    }

    private static void ofOneTokenTheLeast() {
        sentence("of one TOKEN the least");
        fails("works 999;", 6, 1);
        fails(SIX + "station1 1 0;", 80, 1);
        fails(SIX + "run 0 station 1 0;", 86, 1);
        fails(SIX + "run 0 1 station 1 0;", 88, 1);
        fails(FOUR_LOOPS + "run loop 0 0 1;", 68, 1);
        fails(SIX_RUNS + "loop 0 0 run 0 1;", 77, 1);
        fails(SIX + Checks.times(" ", 320) + "station 1 0;", 400, 1);
        fails(SIX + Checks.times(" ", 319) + "station 1 0;", 399, 3);
    }

    private static void noTokenOrOneThatCannotCome() {
        sentence("1 no TOKEN, or one that can't come (at it;");
        fails("?", 0, 1);
        fails("  ?", 2, 1);
        fails("works ?", 6, 1);
        fails("works 1?", 7, 1);
        fails("works 1;?", 8, 1);
        fails("works 1; \n?", 10, 1);
        fails("works station 1 0;", 6, 1);
        fails("works 1;station station 0;", 16, 1);
        fails("works 1;station 1 run;", 18, 1);
        fails("works 1;station 1 0 run;", 20, 1);
        fails("works 1;1;", 8, 1);
        fails("works 1;bad;", 8, 1);
    }

    private static void theEnd() {
        sentence("the end: how many bytes there are");
        String[] tokens = {"works", "1", ";", "station", "1", "0", ";", "loop", "0", "0", "1", ";", "run", "0", "1", ";"};
        StringBuilder text = new StringBuilder();
        for (int i = 0; i < tokens.length; i++) {
            text.append(tokens[i]);
            boolean isWhole = tokens[i].equals(";");
            if (!isWhole) {
                fails(text.toString(), text.length(), 1);
                fails(text + " ", text.length() + 1, 1);
                fails(text + "\n \n", text.length() + 3, 1);
            }
            text.append(' ');
        }
        fine(text.toString(), 4);
    }

    private static void theEndWithoutStation() {
        sentence("also, if there are LINES and no STATION;");
        fails("works 1;", 8, 1);
        fails("works 1; ", 9, 1);
        fails("works 1;run 0 1;\n\n", 18, 1);
        fails("works 1;" + Checks.times(" ", 391), 399, 1);
        fails("works 1;" + Checks.times(" ", 392), 400, 1);
        fails("works 1;" + Checks.times(" ", 393), 400, 1);
        fails("works 1;" + Checks.times(" ", 432), 400, 1);
    }

    private static void at400() {
        sentence("400, if there are more and no FAULT is ahead:");
        fails(ONE + Checks.times(" ", 420), 400, 1);
        fails(ONE + Checks.times(" ", 380) + "run 0 1;", 400, 1);
        fails(ONE + Checks.times(" ", 380) + "?", 400, 1);
        fails(ONE + Checks.times(" ", 379) + "?", 399, 1);
        fails(ONE + Checks.times(" ", 379) + "? ", 399, 1);
        fails(ONE + "run 4 1;" + Checks.times(" ", 400), 24, 2);
        fails(SIX_RUNS + "run 0 1;" + Checks.times(" ", 360), 68, 3);
        fails("works 1" + Checks.times(" ", 394), 400, 1);
        fails("works 1" + Checks.times(" ", 393), 400, 1);
        fails("works 1" + Checks.times(" ", 392), 399, 1);
    }

    private static void readWholeAheadOf400() {
        sentence("TOKENS that begin ahead of it are read whole");
        fails(ONE + Checks.times(" ", 379) + "run 0 1;", 400, 1);
        fails(ONE + Checks.times(" ", 379) + "runx 0 1;", 399, 1);
        fails(ONE + Checks.times(" ", 378) + "run?", 400, 1);
        fails(ONE + Checks.times(" ", 377) + "run?", 400, 1);
        fails(ONE + Checks.times(" ", 376) + "run?", 399, 1);
        fails(ONE + Checks.times(" ", 373) + "run 0 20;", 400, 1);
        fails(ONE + Checks.times(" ", 373) + "run 0 21;", 399, 2);
        fails(ONE + Checks.times(" ", 373) + "run 0 200;", 399, 1);
        fails(ONE + Checks.times(" ", 374) + "run 0 21;", 400, 1);
        fails(ONE + Checks.times(" ", 379) + "station", 400, 1);
        fails(SIX + Checks.times(" ", 319) + "station", 399, 3);
        fails(SIX + Checks.times(" ", 319) + "stationx", 399, 1);
        fails(ONE + Checks.times(" ", 379) + Checks.times("9", 41), 399, 1);
        fails("works 1;" + Checks.times(" ", 391) + "x" + Checks.times("9", 40), 399, 1);
    }

    private static void numbersNotAsTold() {
        sentence("2 a NUMBER that is not as told (at it);");
        fails("works  21 ;", 7, 2);
        fails("works 21", 6, 2);
        fails("works 1;station 61", 16, 2);
        fails("works 1;station 1 61", 18, 2);
        fails(ONE + "loop 1", 25, 2);
        fails(ONE + "loop 0 1", 27, 2);
        fails(ONE + "loop 0 0 21", 29, 2);
        fails(ONE + "run 4", 24, 2);
        fails(ONE + "run 0 21", 26, 2);
    }

    private static void tooMany() {
        sentence("3 a seventh station, a fifth loop, a seventh run (at its WORD).");
        fine(SIX, 7);
        fails(SIX + "station 1 0;", 80, 3);
        fails(SIX + "\n station", 82, 3);
        fine(FOUR_LOOPS, 6);
        fails(FOUR_LOOPS + "loop 0 0 1;", 64, 3);
        fails(FOUR_LOOPS + " loop", 65, 3);
        fine(SIX_RUNS, 8);
        fails(SIX_RUNS + "run 0 1;", 68, 3);
        fails(SIX_RUNS + " run", 69, 3);
        fine("works 1;" + Checks.times("run 0 1;", 6) + "station 1 0;", 8);
        fails("works 1;" + Checks.times("run 0 1;", 7) + "station 1 0;", 56, 3);
    }
}
