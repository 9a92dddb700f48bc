/** Each promise by hand: ordinary inputs, the edges that the document names, wrong inputs. */
public final class PromiseTest {
    private static final Checks CHECKS = new Checks();
    private static final String TWO = "works 2;station 3 0;station 5 0;";
    private static final String TURNS = "works 3;station 2 4;run 1 2;run 2 1;";

    public static void main(String[] args) {
        newObject();
        feed();
        end();
        text();
        textFaultsOfTokens();
        textFaultsOfNumbers();
        textFaultsOfMany();
        textFaultsAt400();
        fault();
        now();
        station();
        waits();
        loop();
        next();
        when();
        pace();
        paceNotSo();
        bound();
        needs();
        least();
        longer();
        longest();
        pass();
        step();
        cards();
        anew();
        undo();
        timeNearItsEnd();
        CHECKS.close();
    }

    private static void due(String call, long got, long want) {
        CHECKS.due(call, got, want);
    }

    private static void due(String call, boolean got, boolean want) {
        CHECKS.due(call, got, want);
    }

    private static void isEmpty(String name, CardLoops x) {
        for (int what = 0; what <= 5; what++) {
            due(name + " now(" + what + ")", x.now(what), 0);
        }
        due(name + " now(6)", x.now(6), -1);
        due(name + " now(7)", x.now(7), -1);
        due(name + " now(8)", x.now(8), 0);
        due(name + " now(9)", x.now(9), 0);
        for (int what = -1; what <= 10; what++) {
            CHECKS.isThrown(x, 0, what);
        }
        due(name + " waits", x.waits(0, 0), -1);
        due(name + " loop", x.loop(0, 2), -1);
        due(name + " next", x.next(0), -1);
        due(name + " when", x.when(1, 0), -1);
        due(name + " pace", x.pace(0), -1);
        due(name + " bound", x.bound(2), -1);
        due(name + " needs", x.needs(0, 1, 1), -1);
        due(name + " least", x.least(0, 1, 1), -1);
        due(name + " longer", x.longer(1, 0), -1);
        due(name + " longest", x.longest(), -1);
        due(name + " pass", x.pass(1), -1);
        due(name + " step", x.step(), -1);
        due(name + " cards", x.cards(0, 2), -1);
        due(name + " anew", x.anew(), -1);
        due(name + " undo", x.undo(), -1);
    }

    private static void newObject() {
        CardLoops x = new CardLoops();
        isEmpty("new", x);
        due("new fault()", x.fault(), 0);
        due("NONE", CardLoops.NONE, -1);
        due("an empty tape is a text", x.text(), 0);
        isEmpty("told nothing", x);
    }

    private static void feed() {
        CardLoops x = new CardLoops();
        for (int i = 1; i <= 22; i++) {
            due("feed " + i, x.feed(0x20202020, 0x20202020, 0x20202020, 0x20202020, 0x20202020), 20 * i);
        }
        due("feed to 460", x.feed(1, 2, 3, 4, 5), -1);
        due("none came", x.now(9), 440);
        x.end(421);
        due("feed to 441", x.feed(1, 2, 3, 4, 5), -1);
        due("none came to 441", x.now(9), 421);
        x.end(420);
        due("feed to 440", x.feed(1, 2, 3, 4, 5), 440);
        x.end(0);
        due("highest first", x.feed(0x776f726b, 0x7320313b, 0x73746174, 0x696f6e20, 0x3120303b), 20);
        due("they are a text", x.text(), 2);
        due("high bytes", x.feed(0x80ffffff, -1, -1, -1, -1), 20);
        due("are no token", x.text(), -1);
    }

    private static void end() {
        CardLoops x = new CardLoops();
        due("end(0) of nothing", x.end(0), true);
        due("end(1) of nothing", x.end(1), false);
        x.feed(0, 0, 0, 0, 0);
        due("end(21)", x.end(21), false);
        due("end(-1)", x.end(-1), false);
        due("end(MIN)", x.end(Integer.MIN_VALUE), false);
        due("all there", x.now(9), 20);
        due("end(20)", x.end(20), true);
        due("end(7)", x.end(7), true);
        due("seven there", x.now(9), 7);
        due("end(8)", x.end(8), false);
        due("feed behind them", x.feed(0, 0, 0, 0, 0), 27);
        x.end(0);
        Checks.put(x, "works 2;station 1 123");
        x.end(20);
        due("what was cut off is not read", x.text(), -21);
        Checks.put(x, "works 2;station 1 12;x");
        x.end(21);
        due("what was cut off is no token", x.text(), 2);
    }

    private static void text() {
        CardLoops x = new CardLoops();
        due("text", Checks.tell(x, TWO), 3);
        due("tape is empty", x.now(9), 0);
        x.step();
        due("fault", Checks.tell(x, "works 2;stop"), -9);
        due("tape is empty with a fault", x.now(9), 0);
        due("all stays: stations", x.now(0), 2);
        due("all stays: time", x.now(3), 3);
        due("all stays: undo", x.now(8), 1);
        due("blanks between or not", Checks.tell(x, "\n works\n20 ;station 60 60;\n\nrun 3 20;loop 0 0 20; "), 4);
        due("anew", x.now(3), 0);
        due("nothing can be undone", x.now(8), 0);
        due("undo", x.undo(), -1);
        due("leading zeros", Checks.tell(x, "works 01;station 01 00;"), 2);
        x.step();
        due("blanks alone", Checks.tell(x, " \n "), 0);
        isEmpty("blanks alone", x);
    }

    private static void fails(String text, int place, int kind) {
        CardLoops x = Checks.works(TWO);
        due("'" + text + "'", Checks.tell(x, text), -1 - place);
        due("fault of '" + text + "'", x.fault(), kind);
        due("all stays with '" + text + "'", x.now(0), 2);
    }

    private static void textFaultsOfTokens() {
        fails("station 1 1;", 0, 1);
        fails(" ,", 1, 1);
        fails("works", 5, 1);
        fails("works ", 6, 1);
        fails("works 2", 7, 1);
        fails("works 2 ", 8, 1);
        fails("works 2;", 8, 1);
        fails("works 2; \n", 10, 1);
        fails("works 2;run 0 1;", 16, 1);
        fails("works2;", 0, 1);
        fails("workss 2;", 0, 1);
        fails("work 2;", 0, 1);
        fails("Works 2;", 0, 1);
        fails("works 2a;", 6, 1);
        fails("works 123;", 6, 1);
        fails("works 002;", 6, 1);
        fails("works ;", 6, 1);
        fails("works works;", 6, 1);
        fails("works 2 2;", 8, 1);
        fails("works -2;", 6, 1);
        fails("works\t2;", 5, 1);
        fails("works 2;;", 8, 1);
        fails("works 2;2;", 8, 1);
        fails("works 2;works 2;", 8, 1);
        fails("works 2;stations 1 1;", 8, 1);
        fails("works 2;station 1;", 17, 1);
        fails("works 2;station 1 1 1;", 20, 1);
        fails("works 2;station 1 1;loop 0 0;", 28, 1);
        fails("works 2;station 1 1;run 0;", 25, 1);
        fails("works 2;station 1 1;r", 20, 1);
        fails("works 2;station 1 1;run", 23, 1);
        fails("works 2;station 1 1" + (char) 0 + ";", 19, 1);
        fails("works 2;station 1 1;" + (char) 225, 20, 1);
    }

    private static void textFaultsOfNumbers() {
        fails("works 0;", 6, 2);
        fails("works 21;", 6, 2);
        fails("works 2;station 0 0;", 16, 2);
        fails("works 2;station 61 0;", 16, 2);
        fails("works 2;station 1 61;", 18, 2);
        fails("works 2;loop 0 0 1;station 1 1;", 13, 2);
        fails("works 2;station 1 1;loop 1 1 1;", 25, 2);
        fails("works 2;station 1 1;loop 0 1 1;", 27, 2);
        fails("works 2;station 1 1;station 1 1;loop 1 0 1;", 39, 2);
        fails("works 2;station 1 1;loop 0 0 0;", 29, 2);
        fails("works 2;station 1 1;loop 0 0 21;", 29, 2);
        fails("works 2;station 1 1;run 4 1;", 24, 2);
        fails("works 2;station 1 1;run 0 0;", 26, 2);
        fails("works 2;station 1 1;run 0 21;", 26, 2);
        fails("works 21 works", 6, 2);
    }

    private static void textFaultsOfMany() {
        String six = "works 2;" + Checks.times("station 1 1;", 6);
        due("six stations", Checks.works(six).now(0), 6);
        fails(six + "station", 80, 3);
        fails(six + "station 99", 80, 3);
        fails(six + "station1", 80, 1);
        String loops = "works 2;station 1 1;" + Checks.times("loop 0 0 1;", 4);
        due("four loops", Checks.works(loops).now(1), 5);
        fails(loops + "loop 0 0 1;", 64, 3);
        String runs = "works 2;station 1 1;" + Checks.times("run 0 1;", 6);
        due("six runs", Checks.works(runs).now(2), 6);
        fails(runs + "run 9 9;", 68, 3);
        due("runs ahead of stations", Checks.works("works 2;run 0 1;station 1 1;").now(2), 1);
    }

    private static void textFaultsAt400() {
        String start = "works 1;station 1 0;";
        due("400 bytes", Checks.works(start + Checks.times(" ", 380)).now(0), 1);
        fails(start + Checks.times(" ", 381), 400, 1);
        fails(Checks.times(" ", 440), 400, 1);
        fails(start + Checks.times(" ", 380) + "bad", 400, 1);
        fails(start + Checks.times(" ", 379) + "bad", 399, 1);
        fails(start + Checks.times(" ", 378) + "run 0 0;", 400, 1);
        fails(start + Checks.times(" ", 378) + "run0", 398, 1);
        fails(start + Checks.times(" ", 374) + "run 0 21;", 400, 1);
        fails(start + Checks.times(" ", 373) + "run 0 21;", 399, 2);
        fails(start + Checks.times(" ", 373) + "run 0 20;", 400, 1);
        fails(start + Checks.times(" ", 377) + "run", 400, 1);
        fails(start + Checks.times(" ", 378) + "run", 400, 1);
        fails("works 1;" + Checks.times(" ", 393), 400, 1);
        fails("works 1;" + Checks.times(" ", 392), 400, 1);
        fails("works 1;" + Checks.times(" ", 391), 399, 1);
        fails(start + ";" + Checks.times(" ", 400), 20, 1);
    }

    private static void fault() {
        CardLoops x = new CardLoops();
        due("ahead of any", x.fault(), 0);
        Checks.tell(x, "works 0;");
        due("latest", x.fault(), 2);
        x.feed(0, 0, 0, 0, 0);
        due("feed does not matter", x.fault(), 2);
        x.text();
        due("latest again", x.fault(), 1);
        Checks.tell(x, TWO);
        due("without one", x.fault(), 0);
    }

    private static void now() {
        CardLoops x = Checks.works("works 4;station 3 0;station 5 0;loop 0 1 2;run 1 1;run 2 3;");
        due("stations", x.now(0), 2);
        due("loops", x.now(1), 2);
        due("runs", x.now(2), 2);
        due("time", x.now(3), 0);
        due("out", x.now(4), 0);
        due("on their way", x.now(5), 1);
        due("lead", x.now(6), -1);
        due("longest lead", x.now(7), -1);
        x.pass(23);
        due("time 23", x.now(3), 23);
        due("out by 23", x.now(4), 4);
        due("on their way at 23", x.now(5), 2);
        due("lead at 23", x.now(6), 10);
        due("longest lead at 23", x.now(7), 10);
        due("undone", x.now(8), 1);
        Checks.put(x, "abc");
        due("tape", x.now(9), 3);
        due("another what", x.now(10), -1);
        due("what below", x.now(-1), -1);
        CardLoops y = Checks.works("works 1;station 1 5;station 1 0;run 0 1;run 1 1;run 1 1;");
        y.pass(9);
        due("second lead", y.now(6), 7);
        y.pass(2);
        due("third lead", y.now(6), 2);
        due("longest stays", y.now(7), 7);
    }

    private static void stationIs(CardLoops x, int station, int... want) {
        for (int what = 0; what < want.length; what++) {
            due("station(" + station + ", " + what + ")", x.station(station, what), want[what]);
        }
    }

    private static void station() {
        CardLoops x = Checks.works("works 4;station 2 3;station 6 1;loop 1 1 1;run 1 1;run 2 1;");
        stationIs(x, 0, 2, 3, 3, 1, 0, 2, 0, 0, 0, 0);
        stationIs(x, 1, 6, 1, 0, -1, 0, -1, 0, 0, 0, 0);
        x.pass(2);
        stationIs(x, 0, 2, 3, 2, 2, 0, 7, 0, 0, 0, 2);
        stationIs(x, 1, 6, 1, 3, 1, 0, 8, 2, 0, 0, 0);
        x.pass(2);
        stationIs(x, 0, 2, 3, 2, 2, 0, 7, 0, 0, 2, 2);
        x.pass(1);
        stationIs(x, 0, 2, 3, 3, 2, 0, 7, 0, 0, 3, 2);
        x.pass(2);
        stationIs(x, 0, 2, 3, 2, 1, 0, 12, 0, 0, 3, 4);
        stationIs(x, 1, 6, 1, 3, 1, 1, 8, 2, 0, 0, 5);
        x.pass(1);
        stationIs(x, 1, 6, 1, 2, 2, 0, 15, 2, 0, 0, 6);
        x.pass(1);
        stationIs(x, 1, 6, 1, 3, 2, 0, 15, 2, 0, 1, 6);
        CardLoops held = Checks.works("works 2;station 1 0;station 1 0;station 9 0;loop 1 2 1;");
        held.pass(4);
        stationIs(held, 0, 1, 0, 1, -1, 0, -1, 0, 2, 0, 2);
        stationIs(held, 1, 1, 0, 1, -1, 1, -1, 1, 2, 0, 1);
        stationIs(held, 2, 9, 0, 3, 0, 0, 11, 2, 0, 0, 2);
        CHECKS.isThrown(held, 3, 0);
        CHECKS.isThrown(held, -1, 0);
        CHECKS.isThrown(held, 0, -1);
        CHECKS.isThrown(held, 0, 10);
        CHECKS.isThrown(held, Integer.MAX_VALUE, Integer.MIN_VALUE);
    }

    private static void waits() {
        CardLoops x = Checks.works("works 5;station 1 0;station 60 0;run 1 1;run 2 1;run 3 1;run 0 1;run 1 1;");
        x.pass(10);
        due("waits(1, 0)", x.waits(1, 0), 2);
        due("waits(1, 1)", x.waits(1, 1), 3);
        due("waits(1, 2)", x.waits(1, 2), 0);
        due("waits(1, 3)", x.waits(1, 3), 1);
        due("waits(1, 4)", x.waits(1, 4), -1);
        due("waits(1, -1)", x.waits(1, -1), -1);
        due("waits(0, 0)", x.waits(0, 0), -1);
        due("waits(2, 0)", x.waits(2, 0), -1);
        due("waits(6, 0)", x.waits(6, 0), -1);
        due("waits(MAX, 0)", x.waits(Integer.MAX_VALUE, 0), -1);
        due("waits(-1, 0)", x.waits(-1, 0), -1);
        due("how many", x.station(1, 4), 4);
    }

    private static void loop() {
        CardLoops x = Checks.works("works 9;station 2 0;station 2 0;loop 1 1 3;station 2 0;loop 0 2 4;");
        int[][] want = {{0, 2, 9, 8}, {1, 1, 3, 3}, {0, 2, 4, 3}};
        for (int loop = 0; loop < 3; loop++) {
            for (int what = 0; what < 4; what++) {
                due("loop(" + loop + ", " + what + ")", x.loop(loop, what), want[loop][what]);
            }
        }
        x.pass(2);
        due("card out", x.loop(1, 3), 2);
        x.pass(2);
        due("one back, one out", x.loop(1, 3), 2);
        due("loop 2", x.loop(2, 3), 1);
        due("loop(3, 0)", x.loop(3, 0), -1);
        due("loop(-1, 0)", x.loop(-1, 0), -1);
        due("loop(0, 4)", x.loop(0, 4), -1);
        due("loop(0, -1)", x.loop(0, -1), -1);
    }

    private static void next() {
        CardLoops x = Checks.works(TURNS);
        int[] row = {1, 2, 1, 1, 2, 1};
        for (int i = 0; i < row.length; i++) {
            due("next(" + i + ")", x.next(i), row[i]);
        }
        due("next(999)", x.next(999), 1);
        due("next(997)", x.next(997), 2);
        due("next(1000)", x.next(1000), -1);
        due("next(-1)", x.next(-1), -1);
        x.step();
        due("next(0) then", x.next(0), 2);
        due("without runs", Checks.works(TWO).next(5), 0);
    }

    private static void when() {
        CardLoops x = Checks.works(TWO);
        due("when(1, 0)", x.when(1, 0), 8);
        due("when(1, 1)", x.when(1, 1), 8);
        due("when(200, 0)", x.when(200, 0), 8 + 199 * 5);
        due("when(200, 1)", x.when(200, 1), 10);
        due("when(201, 0)", x.when(201, 0), -1);
        due("when(0, 0)", x.when(0, 0), -1);
        due("when(1, 2)", x.when(1, 2), -1);
        due("when(1, -1)", x.when(1, -1), -1);
        due("nothing moves", x.now(3), 0);
        x.pass(9);
        due("the next one more", x.when(1, 0), 13);
    }

    private static void paceIs(String text, int parts, int minutes) {
        CardLoops x = Checks.works(text);
        due("pace(0) of " + text, x.pace(0), parts);
        due("pace(1) of " + text, x.pace(1), minutes);
    }

    private static void pace() {
        paceIs(TWO, 1, 5);
        paceIs(TURNS, 3, 14);
        paceIs("works 1;station 60 60;run 0 1;run 1 1;", 1, 120);
        paceIs("works 2;station 60 0;station 60 0;station 60 0;", 1, 90);
        paceIs("works 20;station 1 60;run 0 20;run 1 20;", 1, 4);
        paceIs("works 20;station 1 0;", 1, 1);
        paceIs("works 2;station 1 0;run 0 1;run 0 1;", 1, 1);
        CardLoops x = Checks.works(TWO);
        due("pace(2)", x.pace(2), -1);
        due("pace(-1)", x.pace(-1), -1);
        x.pass(13);
        due("cards", x.cards(0, 3) >= 0, true);
        x.undo();
        x.anew();
        due("fewer cards", x.cards(0, 1), 0);
        due("pace with cards as they are", x.pace(1), 8);
        x.undo();
        due("pace with cards as they were", x.pace(1), 5);
        due("nothing moves", x.now(3), 0);
        Checks.tell(x, TURNS);
        due("pace of another text", x.pace(1), 14);
        x.cards(0, 1);
        Checks.tell(x, "works 1;bad");
        due("pace stays with a fault", x.pace(0), 3);
    }

    private static void paceNotSo() {
        CardLoops within = Checks.works("works 12;station 38 23;station 39 8;run 2 17;run 3 3;");
        due("as it was behind the 1500th: parts", within.longer(2, 0), 5);
        due("as it was behind the 1500th: minutes", within.longer(2, 1), 197);
        CardLoops outside = Checks.works("works 14;station 44 14;station 44 37;run 1 12;run 2 12;");
        due("as it was behind the 1501st: parts", outside.longer(5, 0), -1);
        due("as it was behind the 1501st: minutes", outside.longer(5, 1), -1);
        CardLoops never = Checks.works("works 12;station 58 55;station 19 17;station 58 57;station 22 1;"
            + "loop 1 2 9;run 2 19;run 0 7;run 1 14;");
        due("pace is not so", never.pace(0), -1);
        due("none is so", never.longest(), -1);
        due("least by more cards", never.least(0, 1, 59), -2);
        due("least by few cards", never.least(0, 1, 99), 2);
    }

    private static void boundIs(String text, int parts, int minutes, int tight) {
        CardLoops x = Checks.works(text);
        due("bound(0) of " + text, x.bound(0), parts);
        due("bound(1) of " + text, x.bound(1), minutes);
        due("bound(2) of " + text, x.bound(2), tight);
    }

    private static void bound() {
        boundIs(TWO, 1, 5, 101);
        boundIs("works 4;station 3 0;station 3 0;station 4 0;loop 0 1 2;loop 1 2 1;", 1, 7, 2);
        boundIs("works 2;station 4 9;station 4 9;", 1, 4, 0);
        boundIs("works 9;station 4 0;station 4 0;loop 0 1 2;loop 0 0 1;", 1, 4, 1);
        boundIs("works 9;station 4 0;station 4 0;", 1, 4, 100);
        boundIs("works 2;station 3 0;station 4 0;station 4 0;", 2, 11, 0);
        boundIs("works 4;station 3 0;station 3 0;station 3 0;station 3 0;loop 0 3 4;", 1, 3, 0);
        CardLoops x = Checks.works(TWO);
        due("bound(3)", x.bound(3), -1);
        due("bound(-1)", x.bound(-1), -1);
        x.cards(0, 1);
        due("with cards as they are", x.bound(1), 8);
        due("tight then", x.bound(2), 0);
    }

    private static void needs() {
        CardLoops x = Checks.works("works 2;station 3 0;station 5 0;loop 1 1 4;");
        due("needs(0, 1, 8)", x.needs(0, 1, 8), 1);
        due("needs(0, 1, 7)", x.needs(0, 1, 7), 2);
        due("needs(0, 99, 1)", x.needs(0, 99, 1), 792);
        due("needs(1, 99, 99)", x.needs(1, 99, 99), 5);
        due("needs(1, 1, 99)", x.needs(1, 1, 99), 1);
        due("needs(2, 1, 1)", x.needs(2, 1, 1), -1);
        due("needs(-1, 1, 1)", x.needs(-1, 1, 1), -1);
        due("needs(0, 0, 1)", x.needs(0, 0, 1), -1);
        due("needs(0, 100, 1)", x.needs(0, 100, 1), -1);
        due("needs(0, 1, 0)", x.needs(0, 1, 0), -1);
        due("needs(0, 1, 100)", x.needs(0, 1, 100), -1);
    }

    private static void least() {
        CardLoops x = Checks.works("works 9;station 3 0;station 5 0;station 4 0;loop 0 2 9;");
        due("least(0, 1, 5)", x.least(0, 1, 5), 3);
        due("least(0, 1, 6)", x.least(0, 1, 6), 2);
        due("least(0, 1, 12)", x.least(0, 1, 12), 1);
        due("least(0, 1, 4)", x.least(0, 1, 4), -2);
        due("cards stay", x.loop(0, 2), 9);
        due("least(2, 1, 5)", x.least(2, 1, 5), -1);
        due("least(0, 0, 5)", x.least(0, 0, 5), -1);
        due("least(0, 1, 100)", x.least(0, 1, 100), -1);
        // Setting up keeps PACE below what the rings allow.
        CardLoops turns = Checks.works("works 1;station 2 4;station 2 4;run 1 1;run 2 1;");
        due("by the ring", turns.needs(0, 1, 6), 1);
        due("by trying", turns.least(0, 1, 6), 2);
        CardLoops last = Checks.works("works 1;station 1 20;station 2 18;station 2 60;run 3 17;run 0 15;run 0 7;");
        due("twenty are tried", last.least(0, 5, 26), 20);
        CardLoops twenty = Checks.works("works 1;station 1 0;" + Checks.times("station 60 0;", 5));
        due("more than 20 are never tried", twenty.least(0, 1, 14), -2);
    }

    private static void longer() {
        CardLoops x = Checks.works(TURNS);
        int[][] want = {{3, 14}, {3, 10}, {9, 26}, {3, 8}, {15, 38}};
        for (int f = 1; f <= 5; f++) {
            due("longer(" + f + ", 0)", x.longer(f, 0), want[f - 1][0]);
            due("longer(" + f + ", 1)", x.longer(f, 1), want[f - 1][1]);
        }
        due("longer(0, 0)", x.longer(0, 0), -1);
        due("longer(6, 0)", x.longer(6, 0), -1);
        due("longer(1, 2)", x.longer(1, 2), -1);
        due("longer(1, -1)", x.longer(1, -1), -1);
        due("runs stay", x.next(1), 2);
        due("without runs", Checks.works(TWO).longer(5, 1), 5);
    }

    private static void longest() {
        due("setting up", Checks.works(TURNS).longest(), 5);
        due("nothing to set up", Checks.works(TWO).longest(), 1);
        due("one kind", Checks.works("works 2;station 3 9;run 1 4;run 1 4;").longest(), 1);
    }

    private static void pass() {
        CardLoops x = Checks.works(TWO);
        due("pass(0)", x.pass(0), -1);
        due("pass(-1)", x.pass(-1), -1);
        due("pass(1000)", x.pass(1000), -1);
        due("pass(7)", x.pass(7), 0);
        due("pass(1)", x.pass(1), 1);
        due("who is through at the last, too", x.station(1, 5), 13);
        due("pass(999)", x.pass(999), 199);
        due("time", x.now(3), 1007);
    }

    private static void step() {
        CardLoops x = Checks.works(TWO);
        int[] row = {3, 6, 8, 11, 13, 16, 18};
        for (int time : row) {
            due("step", x.step(), time);
        }
        due("out", x.now(4), 3);
        x.pass(1);
        due("step from between", x.step(), 21);
    }

    private static void cards() {
        CardLoops x = Checks.works("works 2;station 3 0;station 5 0;loop 1 1 2;");
        due("it has K", x.cards(0, 2), -1);
        due("none", x.cards(0, 0), -1);
        due("21", x.cards(0, 21), -1);
        due("no such loop", x.cards(2, 1), -1);
        due("no loop below", x.cards(-1, 1), -1);
        due("20", x.cards(1, 20), 20);
        due("fewer", x.cards(1, 1), 1);
        x.pass(6);
        due("held back", x.station(0, 2), 1);
        due("not enough are free", x.cards(0, 1), -1);
        due("a round, too", x.cards(0, 4), 1);
        due("begun", x.station(0, 5), 9);
        due("as many as are free", x.cards(0, 3), 0);
        due("time stays", x.now(3), 6);
        due("acts", x.now(8), 5);
        CardLoops inner = Checks.works("works 9;station 1 0;station 9 0;station 9 0;loop 1 2 1;");
        inner.pass(10);
        due("waits for a card", inner.station(1, 2), 1);
        due("a card for who waits", inner.cards(1, 2), 0);
        due("works then", inner.station(1, 5), 19);
    }

    private static void anew() {
        CardLoops x = Checks.works(TURNS);
        x.pass(10);
        x.cards(0, 2);
        due("anew", x.anew(), 1);
        due("time", x.now(3), 0);
        due("out", x.now(4), 0);
        due("lead", x.now(6), -1);
        due("longest lead", x.now(7), -1);
        due("runs from the first", x.next(0), 1);
        due("cards as they are", x.loop(0, 2), 2);
        due("minutes", x.station(0, 9), 0);
        due("no setting up of the first", x.station(0, 5), 2);
        due("acts", x.now(8), 3);
    }

    private static void undo() {
        CardLoops x = Checks.works(TWO);
        due("nothing", x.undo(), -1);
        x.pass(0);
        x.cards(0, 2);
        due("NONE is no act", x.undo(), -1);
        for (int i = 1; i <= 10; i++) {
            x.pass(10);
        }
        due("eight are kept", x.now(8), 8);
        for (int i = 7; i >= 0; i--) {
            due("undo", x.undo(), i);
            due("time", x.now(3), 20 + 10 * i);
        }
        due("no more", x.undo(), -1);
        due("time stays", x.now(3), 20);
        x.step();
        x.cards(0, 5);
        x.anew();
        x.pass(2);
        due("undo pass", x.undo(), 3);
        due("at 0", x.now(3), 0);
        due("undo anew", x.undo(), 2);
        due("at 21", x.now(3), 21);
        due("undo cards", x.undo(), 1);
        due("cards as they were", x.loop(0, 2), 2);
        due("undo step", x.undo(), 0);
        due("at 20", x.now(3), 20);
        due("out as it was", x.now(4), 3);
        due("leads as they were", x.now(7), 10);
        due("minutes as they were", x.station(1, 6), 3);
        due("through as it was", x.station(1, 5), 23);
        Checks.put(x, "abc");
        x.pass(1);
        x.undo();
        due("the tape is not undone", x.now(9), 3);
    }

    private static void timeNearItsEnd() {
        CardLoops x = Checks.works("works 1;station 7 0;");
        for (int i = 0; i < 100; i++) {
            x.pass(999);
        }
        due("time", x.now(3), 99900);
        due("pass(100)", x.pass(100), -1);
        due("pass(90)", x.pass(90), 13);
        due("step to 99995", x.step(), 99995);
        due("step above", x.step(), -1);
        due("time stays", x.now(3), 99995);
        due("when is not bound by it", x.when(200, 0), 99995 + 1400);
        due("pass(5)", x.pass(5), -1);
        due("pass(4)", x.pass(4), 0);
        due("time 99999", x.now(3), 99999);
        due("pass(1)", x.pass(1), -1);
        due("minutes", x.station(0, 9), 99999);
        due("anew", x.anew(), 1);
        due("undo", x.undo(), 7);
        due("time 99999 again", x.now(3), 99999);
        CardLoops y = Checks.works("works 1;station 9 0;");
        for (int i = 0; i < 100; i++) {
            y.pass(999);
        }
        y.pass(90);
        due("step to 99999", y.step(), 99999);
    }
}
