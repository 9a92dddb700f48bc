import java.util.Arrays;
import java.util.NoSuchElementException;

/**
 * A works whose parts move only against cards, told as a text and stepped by whatever is through first.
 *
 * <p>PARTS never overtake one another, so a STATION's history is two counts: how many PARTS were begun
 * there and how many are through. Who waits, which cards are FREE and of which KIND a PART is all follow.
 */
public final class CardLoops {
    public static final int NONE = -1;

    private static final int MOST_STATIONS = 6;
    /** LOOP 0 and the four that a text may tell. */
    private static final int MOST_LOOPS = 5;
    private static final int MOST_RUNS = 6;
    private static final int MOST_CARDS = 20;
    private static final int MOST_MINUTES = 60;
    private static final int MOST_COUNT = 20;
    private static final int MOST_KIND = 3;
    private static final int MOST_PLACES = MOST_RUNS * MOST_COUNT;

    private static final int TAPE_BYTES = 440;
    private static final int TEXT_BYTES = 400;
    private static final int FED_BYTES = 20;

    private static final int LAST_TIME = 99999;
    private static final int MOST_PASSED = 999;
    private static final int MOST_NEXT = 999;
    private static final int MOST_WHEN = 200;
    private static final int MOST_PROMISED = 99;
    private static final int MOST_LONGER = 5;
    private static final int MOST_LOOKS = 1500;
    private static final int KEPT_ACTS = 8;
    /** Far above the rounds that any call can need: it only makes the end of each loop plain. */
    private static final int MOST_ROUNDS = 1000000;
    /** Behind every TIME that a line can come to. */
    private static final int NEVER = 2147483647;

    private static final int STARVED = 0;
    private static final int HELD = 1;
    private static final int SETS_UP = 2;
    private static final int WORKS = 3;
    private static final int STATES = 4;
    private static final int STATION_RING = 100;
    private static final int NO_CARDS_DO = -2;
    private static final int UNKNOWN = 0;

    private final int[] tape;
    private int tapeLength = 0;
    private final Plan plan;
    private final Reader reader;
    private final Line line;
    /** What is only thought through (when, PACE) runs here, never on the line itself. */
    private final Line trial;
    private final int[] trialCards = new int[MOST_LOOPS];
    private final PaceFinder finder;
    private final History history;
    /** PACE by how much longer runs are: found once, kept until the text or the cards change. */
    private final int[] knownParts = new int[MOST_LONGER + 1];
    private final int[] knownMinutes = new int[MOST_LONGER + 1];

    /** All rows that any call needs are made here, so that no call makes an object. */
    public CardLoops() {
        int[] bytes = new int[TAPE_BYTES];
        Plan told = new Plan();
        Line tried = new Line(told);
        tape = bytes;
        plan = told;
        reader = new Reader(bytes);
        line = new Line(told);
        trial = tried;
        finder = new PaceFinder(tried);
        history = new History(told);
    }

    public int feed(int a, int b, int c, int d, int e) {
        if (tapeLength > TAPE_BYTES - FED_BYTES) {
            return NONE;
        }
        putBytes(a);
        putBytes(b);
        putBytes(c);
        putBytes(d);
        putBytes(e);
        return tapeLength;
    }

    private void putBytes(int number) {
        for (int shift = 24; shift >= 0 && tapeLength < TAPE_BYTES; shift -= 8) {
            tape[tapeLength] = (number >>> shift) & 255;
            tapeLength++;
        }
    }

    public boolean end(int n) {
        if (n < 0 || n > tapeLength) {
            return false;
        }
        tapeLength = n;
        return true;
    }

    public int text() {
        int lines = reader.read(tapeLength);
        tapeLength = 0;
        if (lines < 0) {
            return lines;
        }
        plan.copyFrom(reader.draft);
        line.startAnew(plan.toldCards, 1);
        history.clear();
        forgetPaces();
        return lines;
    }

    public int fault() {
        return reader.faultKind;
    }

    public int now(int what) {
        switch (what) {
            case 0:
                return plan.stations;
            case 1:
                return plan.loops;
            case 2:
                return plan.runs;
            case 3:
                return line.time;
            case 4:
                return line.out();
            case 5:
                return line.onTheirWay();
            case 6:
                return line.latestLead;
            case 7:
                return line.longestLead;
            case 8:
                return history.count;
            case 9:
                return tapeLength;
            default:
                return NONE;
        }
    }

    public int station(int station, int what) throws NoSuchElementException {
        if (station < 0 || station >= plan.stations) {
            throw new NoSuchElementException("no such station");
        }
        switch (what) {
            case 0:
                return plan.times[station];
            case 1:
                return plan.setups[station];
            case 2:
                return line.stateOf(station);
            case 3:
                return line.kindAt(station);
            case 4:
                return line.waiting(station);
            case 5:
                return line.isIdle(station) ? NONE : line.ends[station];
            case 6:
            case 7:
            case 8:
            case 9:
                return line.minutes[station * STATES + what - 6];
            default:
                throw new NoSuchElementException("no such what");
        }
    }

    public int waits(int station, int i) {
        if (station < 0 || station >= plan.stations || i < 0 || i >= line.waiting(station)) {
            return NONE;
        }
        return line.kindOf(line.begun[station] + i);
    }

    public int loop(int loop, int what) {
        if (!isLoop(loop)) {
            return NONE;
        }
        switch (what) {
            case 0:
                return plan.from[loop];
            case 1:
                return plan.to[loop];
            case 2:
                return line.cardsOf[loop];
            case 3:
                return line.free(loop);
            default:
                return NONE;
        }
    }

    public int next(int i) {
        if (isEmpty() || i < 0 || i > MOST_NEXT) {
            return NONE;
        }
        return line.kindOf(line.begun[0] + i);
    }

    public int when(int n, int what) {
        if (isEmpty() || n < 1 || n > MOST_WHEN || what < 0 || what > 1) {
            return NONE;
        }
        trial.copyFrom(line);
        for (int i = 0; i < n; i++) {
            trial.leapTillOut();
        }
        return what == 0 ? trial.time : trial.latestLead;
    }

    public int pace(int what) {
        return paceBy(1, what);
    }

    public int bound(int what) {
        if (isEmpty() || what < 0 || what > 2) {
            return NONE;
        }
        int tight = tightRing();
        if (what == 2) {
            return tight < plan.loops ? tight : STATION_RING + tight - plan.loops;
        }
        int cards = ringCards(tight, line.cardsOf);
        int minutes = ringMinutes(tight);
        int divisor = commonDivisor(cards, minutes);
        return (what == 0 ? cards : minutes) / divisor;
    }

    public int needs(int loop, int n, int m) {
        if (!isLoop(loop) || !isPromise(n, m)) {
            return NONE;
        }
        return (n * ringMinutes(loop) + m - 1) / m;
    }

    public int least(int loop, int n, int m) {
        if (!isLoop(loop) || !isPromise(n, m)) {
            return NONE;
        }
        System.arraycopy(line.cardsOf, 0, trialCards, 0, MOST_LOOPS);
        for (int k = 1; k <= MOST_CARDS; k++) {
            trialCards[loop] = k;
            if (reaches(trialCards, n, m)) {
                return k;
            }
        }
        return NO_CARDS_DO;
    }

    public int longer(int f, int what) {
        return paceBy(f, what);
    }

    public int longest() {
        if (isEmpty()) {
            return NONE;
        }
        int best = NONE;
        for (int f = 1; f <= MOST_LONGER; f++) {
            learnPace(f);
            if (knownParts[f] > 0 && (best < 1 || isQuicker(f, best))) {
                best = f;
            }
        }
        return best;
    }

    public int pass(int n) {
        if (isEmpty() || n < 1 || n > MOST_PASSED || line.time > LAST_TIME - n) {
            return NONE;
        }
        history.keep(line);
        int before = line.out();
        line.moveTo(line.time + n);
        return line.out() - before;
    }

    public int step() {
        if (isEmpty()) {
            return NONE;
        }
        int then = line.nextThrough();
        if (then > LAST_TIME) {
            return NONE;
        }
        history.keep(line);
        line.moveTo(then);
        return line.time;
    }

    public int cards(int loop, int k) {
        if (!isLoop(loop) || k < 1 || k > MOST_CARDS) {
            return NONE;
        }
        int more = k - line.cardsOf[loop];
        if (more == 0 || line.free(loop) + more < 0) {
            return NONE;
        }
        history.keep(line);
        line.cardsOf[loop] = k;
        line.round();
        forgetPaces();
        return line.free(loop);
    }

    public int anew() {
        if (isEmpty()) {
            return NONE;
        }
        history.keep(line);
        line.startAnew(line.cardsOf, 1);
        return line.onTheirWay();
    }

    public int undo() {
        if (history.count < 1) {
            return NONE;
        }
        history.giveBack(line);
        forgetPaces();
        return history.count;
    }

    private boolean isEmpty() {
        return plan.stations < 1;
    }

    private boolean isLoop(int loop) {
        return loop >= 0 && loop < plan.loops;
    }

    private static boolean isPromise(int n, int m) {
        return n >= 1 && n <= MOST_PROMISED && m >= 1 && m <= MOST_PROMISED;
    }

    private void forgetPaces() {
        Arrays.fill(knownParts, UNKNOWN);
    }

    private void learnPace(int f) {
        if (knownParts[f] == UNKNOWN) {
            finder.search(line.cardsOf, f);
            knownParts[f] = finder.parts;
            knownMinutes[f] = finder.minutes;
        }
    }

    private int paceBy(int f, int what) {
        if (isEmpty() || f < 1 || f > MOST_LONGER || what < 0 || what > 1) {
            return NONE;
        }
        learnPace(f);
        return what == 0 ? knownParts[f] : knownMinutes[f];
    }

    private boolean isQuicker(int f, int than) {
        return (long) knownParts[f] * knownMinutes[than] > (long) knownParts[than] * knownMinutes[f];
    }

    /** RINGS by numbers: the LOOPS, behind them the STATIONS. */
    private int ringMinutes(int ring) {
        if (ring >= plan.loops) {
            return plan.times[ring - plan.loops];
        }
        int minutes = 0;
        for (int s = plan.from[ring]; s <= plan.to[ring]; s++) {
            minutes += plan.times[s];
        }
        return minutes;
    }

    private int ringCards(int ring, int[] cardsOf) {
        return ring < plan.loops ? cardsOf[ring] : 1;
    }

    private int tightRing() {
        int tight = 0;
        for (int ring = 1; ring < plan.loops + plan.stations; ring++) {
            int tightMinutes = ringMinutes(tight) * ringCards(ring, line.cardsOf);
            if (ringMinutes(ring) * ringCards(tight, line.cardsOf) > tightMinutes) {
                tight = ring;
            }
        }
        return tight;
    }

    /** No PACE is above what its RINGS allow: what one of them forbids need not be tried. */
    private boolean isForbidden(int[] cardsOf, int n, int m) {
        for (int ring = 0; ring < plan.loops + plan.stations; ring++) {
            if (n * ringMinutes(ring) > m * ringCards(ring, cardsOf)) {
                return true;
            }
        }
        return false;
    }

    private boolean reaches(int[] cardsOf, int n, int m) {
        if (isForbidden(cardsOf, n, m)) {
            return false;
        }
        finder.search(cardsOf, 1);
        return finder.parts > 0 && (long) finder.parts * m >= (long) n * finder.minutes;
    }

    /** The greatest number that divides both; 1 at least, so that it can always be divided by. */
    private static int commonDivisor(int a, int b) {
        int greater = a;
        int lesser = b;
        for (int i = 0; i < 64 && lesser > 0; i++) {
            int rest = greater % lesser;
            greater = lesser;
            lesser = rest;
        }
        return Math.max(greater, 1);
    }

    /** What a TEXT tells; with no STATIONS there is no works. */
    private static final class Plan {
        final int[] times = new int[MOST_STATIONS];
        final int[] setups = new int[MOST_STATIONS];
        final int[] from = new int[MOST_LOOPS];
        final int[] to = new int[MOST_LOOPS];
        final int[] toldCards = new int[MOST_LOOPS];
        /** The KIND of each place in RUNS. */
        final int[] kinds = new int[MOST_PLACES];
        int stations = 0;
        int loops = 0;
        int runs = 0;
        int places = 0;

        void clear() {
            stations = 0;
            loops = 0;
            runs = 0;
            places = 0;
        }

        void addStation(int time, int setup) {
            if (stations >= MOST_STATIONS) {
                return;
            }
            times[stations] = time;
            setups[stations] = setup;
            to[0] = stations;
            stations++;
        }

        void addLoop(int first, int last, int cards) {
            if (loops >= MOST_LOOPS) {
                return;
            }
            from[loops] = first;
            to[loops] = last;
            toldCards[loops] = cards;
            loops++;
        }

        void addRun(int kind, int count) {
            if (runs >= MOST_RUNS) {
                return;
            }
            for (int i = 0; i < count && places < MOST_PLACES; i++) {
                kinds[places] = kind;
                places++;
            }
            runs++;
        }

        void copyFrom(Plan other) {
            System.arraycopy(other.times, 0, times, 0, MOST_STATIONS);
            System.arraycopy(other.setups, 0, setups, 0, MOST_STATIONS);
            System.arraycopy(other.from, 0, from, 0, MOST_LOOPS);
            System.arraycopy(other.to, 0, to, 0, MOST_LOOPS);
            System.arraycopy(other.toldCards, 0, toldCards, 0, MOST_LOOPS);
            System.arraycopy(other.kinds, 0, kinds, 0, MOST_PLACES);
            stations = other.stations;
            loops = other.loops;
            runs = other.runs;
            places = other.places;
        }
    }

    /** Reads a tape as a TEXT into a draft, up to the first FAULT. */
    private static final class Reader {
        static final int NO_TOKEN = 0;
        static final int END = 1;
        static final int WORD = 2;
        static final int NUMBER = 3;
        static final int SIGN = 4;

        static final int CANNOT_COME = 1;
        static final int NOT_AS_TOLD = 2;
        static final int TOO_MANY = 3;

        final Plan draft = new Plan();
        final int[] tape;
        int length = 0;
        int faultKind = 0;
        int faultPlace = 0;
        int at = 0;
        int tokenSort = END;
        int tokenStart = 0;

        Reader(int[] tape) {
            this.tape = tape;
        }

        /** How many LINES; -1 less the place of a FAULT. */
        int read(int bytes) {
            length = Math.min(bytes, tape.length);
            at = 0;
            faultKind = 0;
            draft.clear();
            int lines = 0;
            readToken();
            while (faultKind == 0 && tokenSort != END && lines < TAPE_BYTES) {
                readLine(lines == 0);
                lines++;
                readToken();
            }
            if (faultKind == 0 && lines > 0 && draft.stations == 0) {
                fail(CANNOT_COME);
            }
            return faultKind == 0 ? lines : -1 - faultPlace;
        }

        /** The first FAULT stands; what is read behind it changes nothing. */
        void fail(int kind) {
            if (faultKind == 0) {
                faultKind = kind;
                faultPlace = tokenStart;
            }
        }

        void readLine(boolean first) {
            if (first) {
                if (isWord("works")) {
                    readWorks();
                } else {
                    fail(CANNOT_COME);
                }
            } else if (isWord("station")) {
                readStation();
            } else if (isWord("loop")) {
                readLoop();
            } else if (isWord("run")) {
                readRun();
            } else {
                fail(CANNOT_COME);
            }
        }

        void readWorks() {
            int cards = readNumber(1, MOST_CARDS);
            readSign();
            if (faultKind == 0) {
                draft.addLoop(0, 0, cards);
            }
        }

        void readStation() {
            if (draft.stations >= MOST_STATIONS) {
                fail(TOO_MANY);
            }
            int time = readNumber(1, MOST_MINUTES);
            int setup = readNumber(0, MOST_MINUTES);
            readSign();
            if (faultKind == 0) {
                draft.addStation(time, setup);
            }
        }

        void readLoop() {
            if (draft.loops >= MOST_LOOPS) {
                fail(TOO_MANY);
            }
            int first = readNumber(0, draft.stations - 1);
            int last = readNumber(first, draft.stations - 1);
            int cards = readNumber(1, MOST_CARDS);
            readSign();
            if (faultKind == 0) {
                draft.addLoop(first, last, cards);
            }
        }

        void readRun() {
            if (draft.runs >= MOST_RUNS) {
                fail(TOO_MANY);
            }
            int kind = readNumber(0, MOST_KIND);
            int count = readNumber(1, MOST_COUNT);
            readSign();
            if (faultKind == 0) {
                draft.addRun(kind, count);
            }
        }

        int readNumber(int low, int high) {
            readToken();
            if (tokenSort != NUMBER) {
                fail(CANNOT_COME);
                return low;
            }
            int value = 0;
            for (int i = tokenStart; i < at; i++) {
                value = value * 10 + tape[i] - '0';
            }
            if (value < low || value > high) {
                fail(NOT_AS_TOLD);
            }
            return value;
        }

        void readSign() {
            readToken();
            if (tokenSort != SIGN) {
                fail(CANNOT_COME);
            }
        }

        /** From byte 400 on there is no TOKEN, but one that begins ahead of it is read whole. */
        void readToken() {
            while (at < length && isBlank(tape[at])) {
                at++;
            }
            tokenStart = at;
            if (at >= TEXT_BYTES && length > TEXT_BYTES) {
                tokenStart = TEXT_BYTES;
                tokenSort = NO_TOKEN;
            } else if (at >= length) {
                tokenSort = END;
            } else if (tape[at] == ';') {
                at++;
                tokenSort = SIGN;
            } else {
                readLump();
            }
        }

        void readLump() {
            int letters = 0;
            int digits = 0;
            while (at < length) {
                int sign = tape[at];
                if (sign >= 'a' && sign <= 'z') {
                    letters++;
                } else if (sign >= '0' && sign <= '9') {
                    digits++;
                } else {
                    break;
                }
                at++;
            }
            if (digits == 0 && letters > 0) {
                tokenSort = WORD;
            } else if (letters == 0 && digits > 0 && digits <= 2) {
                tokenSort = NUMBER;
            } else {
                tokenSort = NO_TOKEN;
            }
        }

        boolean isWord(String word) {
            if (tokenSort != WORD || at - tokenStart != word.length()) {
                return false;
            }
            for (int i = 0; i < word.length(); i++) {
                if (tape[tokenStart + i] != word.charAt(i)) {
                    return false;
                }
            }
            return true;
        }

        static boolean isBlank(int sign) {
            return sign == 32 || sign == 10;
        }
    }

    /** The works as it goes on. PARTS are numbered from 0 as they are begun at STATION 0. */
    private static final class Line {
        final Plan plan;
        /** By STATIONS: how many PARTS were begun there, how many are through, when the one there will be. */
        final int[] begun = new int[MOST_STATIONS];
        final int[] through = new int[MOST_STATIONS];
        final int[] ends = new int[MOST_STATIONS];
        final int[] cardsOf = new int[MOST_LOOPS];
        /** When a PART was begun, by its number modulo MOST_CARDS: LOOP 0 lets no more be on their way. */
        final int[] births = new int[MOST_CARDS];
        final int[] minutes = new int[MOST_STATIONS * STATES];
        /** How many times each COUNT is taken. */
        int factor = 1;
        int time = 0;
        int latestLead = NONE;
        int longestLead = NONE;

        Line(Plan plan) {
            this.plan = plan;
        }

        void startAnew(int[] cards, int longerBy) {
            System.arraycopy(cards, 0, cardsOf, 0, MOST_LOOPS);
            Arrays.fill(begun, 0);
            Arrays.fill(through, 0);
            Arrays.fill(minutes, 0);
            factor = longerBy;
            time = 0;
            latestLead = NONE;
            longestLead = NONE;
            round();
        }

        void copyFrom(Line other) {
            System.arraycopy(other.begun, 0, begun, 0, MOST_STATIONS);
            System.arraycopy(other.through, 0, through, 0, MOST_STATIONS);
            System.arraycopy(other.ends, 0, ends, 0, MOST_STATIONS);
            System.arraycopy(other.cardsOf, 0, cardsOf, 0, MOST_LOOPS);
            System.arraycopy(other.births, 0, births, 0, MOST_CARDS);
            System.arraycopy(other.minutes, 0, minutes, 0, MOST_STATIONS * STATES);
            factor = other.factor;
            time = other.time;
            latestLead = other.latestLead;
            longestLead = other.longestLead;
        }

        int out() {
            return plan.stations < 1 ? 0 : through[plan.stations - 1];
        }

        int onTheirWay() {
            return begun[0] - out();
        }

        boolean isIdle(int station) {
            return begun[station] == through[station];
        }

        int waiting(int station) {
            return station < 1 ? 0 : through[station - 1] - begun[station];
        }

        int free(int loop) {
            return cardsOf[loop] - (begun[plan.from[loop]] - through[plan.to[loop]]);
        }

        int kindOf(int part) {
            if (plan.places < 1 || factor < 1 || part < 0) {
                return 0;
            }
            return plan.kinds[part / factor % plan.places];
        }

        int kindAt(int station) {
            return isIdle(station) ? NONE : kindOf(begun[station] - 1);
        }

        int placeInRuns() {
            int all = plan.places * factor;
            return all < 1 ? 0 : begun[0] % all;
        }

        int setUpAt(int station) {
            return ends[station] - plan.times[station];
        }

        int stateOf(int station) {
            if (!isIdle(station)) {
                return time < setUpAt(station) ? SETS_UP : WORKS;
            }
            return station == 0 || waiting(station) > 0 ? HELD : STARVED;
        }

        void round() {
            for (int s = plan.stations - 1; s >= 0; s--) {
                if (!isIdle(s) && ends[s] <= time) {
                    finish(s);
                }
            }
            for (int s = plan.stations - 1; s >= 0; s--) {
                if (isIdle(s) && canBegin(s)) {
                    begin(s);
                }
            }
        }

        void finish(int station) {
            int part = through[station];
            through[station]++;
            if (station == plan.stations - 1) {
                latestLead = time - births[part % MOST_CARDS];
                longestLead = Math.max(longestLead, latestLead);
            }
        }

        boolean canBegin(int station) {
            if (station > 0 && waiting(station) < 1) {
                return false;
            }
            for (int loop = 0; loop < plan.loops; loop++) {
                if (plan.from[loop] == station && free(loop) < 1) {
                    return false;
                }
            }
            return true;
        }

        void begin(int station) {
            int part = begun[station];
            begun[station]++;
            int setup = part > 0 && kindOf(part - 1) != kindOf(part) ? plan.setups[station] : 0;
            ends[station] = time + setup + plan.times[station];
            if (station == 0) {
                births[part % MOST_CARDS] = time;
            }
        }

        /** In a works somebody is always busy: the foremost PART is never held back. */
        int nextThrough() {
            int soonest = NEVER;
            for (int s = 0; s < plan.stations; s++) {
                if (!isIdle(s) && ends[s] < soonest) {
                    soonest = ends[s];
                }
            }
            return soonest;
        }

        /** Without counting minutes: for a line that is only thought through. */
        void leapTillOut() {
            int before = out();
            for (int rounds = 0; rounds < MOST_ROUNDS && out() == before; rounds++) {
                time = nextThrough();
                round();
            }
        }

        void moveTo(int then) {
            for (int rounds = 0; rounds < MOST_ROUNDS && time < then; rounds++) {
                int until = Math.min(then, nextThrough());
                countMinutes(until);
                time = until;
                round();
            }
        }

        void countMinutes(int until) {
            for (int s = 0; s < plan.stations; s++) {
                int span = until - time;
                int row = s * STATES;
                if (isIdle(s)) {
                    minutes[row + stateOf(s)] += span;
                } else {
                    int setting = Math.max(0, Math.min(until, setUpAt(s)) - time);
                    minutes[row + SETS_UP] += setting;
                    minutes[row + WORKS] += span - setting;
                }
            }
        }
    }

    /** The line as it was ahead of each of the latest acts. */
    private static final class History {
        final Line[] kept = new Line[KEPT_ACTS];
        int count = 0;
        int top = 0;

        History(Plan plan) {
            for (int i = 0; i < KEPT_ACTS; i++) {
                kept[i] = new Line(plan);
            }
        }

        void clear() {
            count = 0;
        }

        void keep(Line line) {
            kept[top].copyFrom(line);
            top = (top + 1) % KEPT_ACTS;
            count = Math.min(count + 1, KEPT_ACTS);
        }

        void giveBack(Line line) {
            if (count < 1) {
                return;
            }
            top = (top + KEPT_ACTS - 1) % KEPT_ACTS;
            count--;
            line.copyFrom(kept[top]);
        }
    }

    /**
     * Runs a line from TIME 0 until all that goes on is as it was behind an earlier PART that came OUT.
     *
     * <p>What is compared is the place in RUNS, how long each STATION is busy yet, and how many wait. The
     * rest follows from these: the KINDS, since PARTS keep their order (and whoever is looked at has a PART
     * before it, the first one being OUT); what is left of setting up, since TIME minutes come behind it;
     * the cards FREE, since who is on the way between FROM and TO has the others.
     */
    private static final class PaceFinder {
        static final int HEADS = 1024;
        static final int BUSY_BITS = 7;
        static final int WAIT_BITS = 5;

        final Line trial;
        final long[] busy = new long[MOST_LOOKS];
        final int[] queues = new int[MOST_LOOKS];
        final int[] times = new int[MOST_LOOKS];
        /** Looks of like hash are chained, the latest ahead. */
        final int[] heads = new int[HEADS];
        final int[] chain = new int[MOST_LOOKS];
        int parts = NONE;
        int minutes = NONE;

        PaceFinder(Line trial) {
            this.trial = trial;
        }

        /** Sets parts and minutes: the PACE, or NONE. */
        void search(int[] cards, int factor) {
            parts = NONE;
            minutes = NONE;
            Arrays.fill(heads, NONE);
            trial.startAnew(cards, factor);
            for (int look = 0; look < MOST_LOOKS; look++) {
                trial.leapTillOut();
                lookAround(look);
                int earlier = enter(look);
                if (earlier != NONE) {
                    int divisor = commonDivisor(look - earlier, times[look] - times[earlier]);
                    parts = (look - earlier) / divisor;
                    minutes = (times[look] - times[earlier]) / divisor;
                    return;
                }
            }
        }

        void lookAround(int look) {
            long left = trial.placeInRuns();
            int waiting = 0;
            for (int s = 0; s < trial.plan.stations; s++) {
                int minutesLeft = trial.isIdle(s) ? 0 : trial.ends[s] - trial.time;
                left = (left << BUSY_BITS) + minutesLeft;
                waiting = (waiting << WAIT_BITS) + trial.waiting(s);
            }
            busy[look] = left;
            queues[look] = waiting;
            times[look] = trial.time;
        }

        /** The earlier look that was just like this one; NONE, and this one is entered, if there is none. */
        int enter(int look) {
            long mixed = busy[look] * 0x9E3779B97F4A7C15L + queues[look] * 0xC2B2AE3D27D4EB4FL;
            int head = (int) (mixed >>> 40) & (HEADS - 1);
            int earlier = heads[head];
            for (int i = 0; i < MOST_LOOKS && earlier != NONE; i++) {
                if (busy[earlier] == busy[look] && queues[earlier] == queues[look]) {
                    return earlier;
                }
                earlier = chain[earlier];
            }
            chain[look] = heads[head];
            heads[head] = look;
            return NONE;
        }
    }
}
