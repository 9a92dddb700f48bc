import java.util.NoSuchElementException;
import java.util.Random;

/**
 * CardLoops against the document told once more (NaiveCardLoops): the same calls, chance ones from fixed seeds.
 * No object gets more than the 512 calls behind which the document leaves its answers free.
 */
public final class ModelTest {
    private static final Checks CHECKS = new Checks();
    private static final String[] PIECES = {"works", "station", "loop", "run", ";", ";", ";", " ", " ", "\n", "1",
        "0", "2", "3", "20", "21", "60", "61", "05", "100", "x", "Z", "-", "works 3;", "station 4 2;", "run 1 2;",
        "loop 0 0 1;", "loop 0 1 2;"};

    private static final int MOST_CALLS = 512;
    /** The most that tell() and look() can spend. */
    private static final int CALLS_OF_A_TEXT = 40;
    private static final int CALLS_OF_A_LOOK = 340;

    private final Random random;
    private CardLoops x = new CardLoops();
    private NaiveCardLoops y = new NaiveCardLoops();
    private int calls = 0;
    private final String name;

    private ModelTest(long seed) {
        random = new Random(seed);
        name = "seed " + seed + ": ";
    }

    public static void main(String[] args) {
        int runs = args.length > 0 ? Integer.parseInt(args[0]) : 300;
        long first = args.length > 1 ? Long.parseLong(args[1]) : 1;
        for (long seed = first; seed < first + runs && CHECKS.isRight(); seed++) {
            ModelTest test = new ModelTest(seed);
            test.texts();
            test.manyMoves();
            test.fewMoves();
        }
        CHECKS.close();
    }

    /** One call of each of the two. */
    private void due(String call, long got, long want) {
        calls++;
        CHECKS.due(name + call, got, want);
        if (calls > MOST_CALLS) {
            CHECKS.due(name + "calls of one object", calls, MOST_CALLS);
        }
    }

    private void makeNew() {
        x = new CardLoops();
        y = new NaiveCardLoops();
        calls = 0;
    }

    private void texts() {
        for (int i = 0; i < 60; i++) {
            String text = works(random.nextInt(3) == 0);
            tellAndGlance(random.nextInt(8) == 0 ? text : spoil(text));
        }
        for (int i = 0; i < 30; i++) {
            StringBuilder b = new StringBuilder();
            int pieces = random.nextInt(40);
            for (int k = 0; k < pieces; k++) {
                b.append(PIECES[random.nextInt(PIECES.length)]);
            }
            tellAndGlance(b.toString());
        }
    }

    private void tellAndGlance(String text) {
        if (calls > MOST_CALLS - CALLS_OF_A_TEXT - 12) {
            look();
            makeNew();
        }
        tell(text);
        for (int i = 0; i < 12; i++) {
            glance();
        }
    }

    private String spoil(String text) {
        StringBuilder b = new StringBuilder(text);
        int spots = random.nextInt(3);
        for (int i = 0; i < spots && b.length() > 0; i++) {
            int at = random.nextInt(b.length());
            switch (random.nextInt(4)) {
                case 0:
                    b.deleteCharAt(at);
                    break;
                case 1:
                    b.insert(at, PIECES[random.nextInt(PIECES.length)]);
                    break;
                case 2:
                    b.setCharAt(at, (char) random.nextInt(256));
                    break;
                default:
                    b.insert(at, " ".repeat(random.nextInt(440)));
                    break;
            }
        }
        int most = 380 + random.nextInt(61);
        return b.length() > most ? b.substring(0, most) : b.toString();
    }

    private void tell(String text) {
        for (int i = 0; i < text.length(); i += 20) {
            int a = Checks.number(text, i);
            int b = Checks.number(text, i + 4);
            int c = Checks.number(text, i + 8);
            int d = Checks.number(text, i + 12);
            int e = Checks.number(text, i + 16);
            due("feed", x.feed(a, b, c, d, e), y.feed(a, b, c, d, e));
        }
        due("end", x.end(text.length()) ? 1 : 0, y.end(text.length()) ? 1 : 0);
        due("bytes", x.now(9), y.now(9));
        due("text '" + text + "'", x.text(), y.text());
        due("fault '" + text + "'", x.fault(), y.fault());
    }

    private String works(boolean wide) {
        StringBuilder b = new StringBuilder();
        int stations = 1 + random.nextInt(6);
        int most = wide ? 60 : 9;
        b.append("works ").append(1 + random.nextInt(random.nextBoolean() ? 20 : 6)).append(';');
        for (int i = 0; i < stations; i++) {
            int setup = random.nextInt(3) == 0 ? 0 : random.nextInt(most + 1);
            b.append("station ").append(1 + random.nextInt(most)).append(' ').append(setup).append(";");
        }
        int loops = random.nextInt(5);
        for (int i = 0; i < loops; i++) {
            int from = random.nextInt(stations);
            int to = from + random.nextInt(stations - from);
            b.append("loop ").append(from).append(' ').append(to).append(' ').append(1 + random.nextInt(7)).append(';');
        }
        int runs = random.nextInt(7);
        for (int i = 0; i < runs; i++) {
            int count = 1 + random.nextInt(wide ? 20 : 5);
            b.append("run ").append(random.nextInt(4)).append(' ').append(count).append(';');
        }
        return b.toString();
    }

    /** Everything that can be asked without moving, but for what takes long, as far as calls are left. */
    private void look() {
        if (calls > MOST_CALLS - CALLS_OF_A_LOOK) {
            return;
        }
        for (int what = -1; what <= 10; what++) {
            due("now(" + what + ")", x.now(what), y.now(what));
        }
        int stations = y.now(0);
        int loops = y.now(1);
        for (int s = -1; s <= stations; s++) {
            for (int what = -1; what <= 10; what++) {
                due("station(" + s + ", " + what + ")", ofStation(s, what), ofNaiveStation(s, what));
            }
            for (int i = -1; i <= 20; i++) {
                due("waits(" + s + ", " + i + ")", x.waits(s, i), y.waits(s, i));
            }
        }
        for (int l = -1; l <= loops; l++) {
            for (int what = -1; what <= 4; what++) {
                due("loop(" + l + ", " + what + ")", x.loop(l, what), y.loop(l, what));
            }
        }
        for (int what = -1; what <= 3; what++) {
            due("bound(" + what + ")", x.bound(what), y.bound(what));
        }
    }

    /** One of the calls of look(), by chance. */
    private void glance() {
        int what = random.nextInt(12) - 1;
        int s = random.nextInt(8) - 1;
        int i = random.nextInt(random.nextBoolean() ? 22 : 4) - 1;
        switch (random.nextInt(6)) {
            case 0:
                due("now(" + what + ")", x.now(what), y.now(what));
                break;
            case 1:
                due("waits(" + s + ", " + i + ")", x.waits(s, i), y.waits(s, i));
                break;
            case 2:
                due("loop(" + s + ", " + i + ")", x.loop(s, i), y.loop(s, i));
                break;
            case 3:
                due("bound(" + i + ")", x.bound(i), y.bound(i));
                break;
            default:
                due("station(" + s + ", " + what + ")", ofStation(s, what), ofNaiveStation(s, what));
                break;
        }
    }

    private long ofStation(int s, int what) {
        try {
            return x.station(s, what);
        } catch (NoSuchElementException e) {
            return Long.MIN_VALUE;
        }
    }

    private long ofNaiveStation(int s, int what) {
        try {
            return y.station(s, what);
        } catch (NoSuchElementException e) {
            return Long.MIN_VALUE;
        }
    }

    private int odd(int low, int high) {
        switch (random.nextInt(12)) {
            case 0:
                return low - 1;
            case 1:
                return high + 1;
            case 2:
                return random.nextInt();
            case 3:
                return high;
            case 4:
                return low;
            default:
                return low + random.nextInt(high - low + 1);
        }
    }

    /** Many moves with some glances, up to the last call. */
    private void manyMoves() {
        makeNew();
        tell(works(random.nextInt(6) == 0));
        while (calls <= MOST_CALLS - CALLS_OF_A_TEXT - 8) {
            if (random.nextInt(40) == 0) {
                tell(works(random.nextInt(6) == 0));
            }
            move();
            think();
            for (int i = 0; i < 5; i++) {
                glance();
            }
        }
    }

    /** Few moves, then all is looked at. */
    private void fewMoves() {
        for (int turn = 0; turn < 8; turn++) {
            makeNew();
            tell(works(random.nextInt(6) == 0));
            int moves = 1 + random.nextInt(60);
            for (int i = 0; i < moves; i++) {
                move();
                think();
            }
            look();
        }
    }

    private void move() {
        int a = odd(1, random.nextInt(4) == 0 ? 999 : 30);
        int loop = odd(0, 4);
        int k = odd(1, 20);
        switch (random.nextInt(9)) {
            case 0:
            case 1:
            case 2:
                due("pass(" + a + ")", x.pass(a), y.pass(a));
                break;
            case 3:
            case 4:
                due("step()", x.step(), y.step());
                break;
            case 5:
            case 6:
                due("cards(" + loop + ", " + k + ")", x.cards(loop, k), y.cards(loop, k));
                break;
            case 7:
                due("undo()", x.undo(), y.undo());
                break;
            default:
                if (random.nextInt(3) == 0) {
                    due("anew()", x.anew(), y.anew());
                } else {
                    due("undo()", x.undo(), y.undo());
                }
                break;
        }
    }

    private void think() {
        int what = odd(0, 1);
        int n = odd(1, 200);
        int i = odd(0, 999);
        int f = odd(1, 5);
        int loop = odd(0, 3);
        int p = odd(1, random.nextBoolean() ? 99 : 4);
        int m = odd(1, 99);
        switch (random.nextInt(10)) {
            case 0:
                due("when(" + n + ", " + what + ")", x.when(n, what), y.when(n, what));
                break;
            case 1:
                due("next(" + i + ")", x.next(i), y.next(i));
                break;
            case 2:
                due("pace(" + what + ")", x.pace(what), y.pace(what));
                break;
            case 3:
                due("longer(" + f + ", " + what + ")", x.longer(f, what), y.longer(f, what));
                break;
            case 4:
                due("longest()", x.longest(), y.longest());
                break;
            case 5:
            case 6:
                due("needs(" + loop + ", " + p + ", " + m + ")", x.needs(loop, p, m), y.needs(loop, p, m));
                break;
            case 7:
                due("least(" + loop + ", " + p + ", " + m + ")", x.least(loop, p, m), y.least(loop, p, m));
                break;
            default:
                break;
        }
    }
}
