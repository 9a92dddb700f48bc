import java.util.NoSuchElementException;
import java.util.Random;

/** CardLoops against the document told once more (NaiveCardLoops): the same calls, chance ones from fixed seeds. */
public final class ModelTest {
    private static final Checks CHECKS = new Checks();
    private static final String[] PIECES = {"works", "station", "loop", "run", ";", ";", ";", " ", " ", "\n", "1",
        "0", "2", "3", "20", "21", "60", "61", "05", "100", "x", "Z", "-", "works 3;", "station 4 2;", "run 1 2;",
        "loop 0 0 1;", "loop 0 1 2;"};

    private final Random random;
    private final CardLoops x = new CardLoops();
    private final NaiveCardLoops y = new NaiveCardLoops();
    private final String name;

    private ModelTest(long seed) {
        random = new Random(seed);
        name = "seed " + seed + ": ";
    }

    public static void main(String[] args) {
        int runs = args.length > 0 ? Integer.parseInt(args[0]) : 300;
        long first = args.length > 1 ? Long.parseLong(args[1]) : 1;
        for (long seed = first; seed < first + runs && CHECKS.isRight(); seed++) {
            ModelTest test = new ModelTest(seed);
            test.texts();
            test.calls();
        }
        CHECKS.close();
    }

    private void due(String call, long got, long want) {
        CHECKS.due(name + call, got, want);
    }

    private void texts() {
        for (int i = 0; i < 60; i++) {
            String text = works(random.nextInt(3) == 0);
            tell(random.nextInt(8) == 0 ? text : spoil(text));
        }
        for (int i = 0; i < 30; i++) {
            StringBuilder b = new StringBuilder();
            int pieces = random.nextInt(40);
            for (int k = 0; k < pieces; k++) {
                b.append(PIECES[random.nextInt(PIECES.length)]);
            }
            tell(b.toString());
        }
    }

    private String spoil(String text) {
        StringBuilder b = new StringBuilder(text);
        int spots = random.nextInt(3);
        for (int i = 0; i < spots && b.length() > 0; i++) {
            int at = random.nextInt(b.length());
            switch (random.nextInt(4)) {
                case 0:
                    b.deleteCharAt(at);
                    break;
                case 1:
                    b.insert(at, PIECES[random.nextInt(PIECES.length)]);
                    break;
                case 2:
                    b.setCharAt(at, (char) random.nextInt(256));
                    break;
                default:
                    b.insert(at, " ".repeat(random.nextInt(440)));
                    break;
            }
        }
        int most = 380 + random.nextInt(61);
        return b.length() > most ? b.substring(0, most) : b.toString();
    }

    private void tell(String text) {
        Checks.put(x, text);
        y.end(0);
        for (int i = 0; i < text.length(); i += 20) {
            y.feed(number(text, i), number(text, i + 4), number(text, i + 8), number(text, i + 12), number(text, i + 16));
        }
        y.end(text.length());
        due("bytes", x.now(9), y.now(9));
        due("text '" + text + "'", x.text(), y.text());
        due("fault '" + text + "'", x.fault(), y.fault());
        look();
    }

    private static int number(String text, int at) {
        int number = 0;
        for (int i = at; i < at + 4; i++) {
            number = number << 8 | (i < text.length() ? text.charAt(i) : 0);
        }
        return number;
    }

    private String works(boolean wide) {
        StringBuilder b = new StringBuilder();
        int stations = 1 + random.nextInt(6);
        int most = wide ? 60 : 9;
        b.append("works ").append(1 + random.nextInt(random.nextBoolean() ? 20 : 6)).append(';');
        for (int i = 0; i < stations; i++) {
            int setup = random.nextInt(3) == 0 ? 0 : random.nextInt(most + 1);
            b.append("station ").append(1 + random.nextInt(most)).append(' ').append(setup).append(";");
        }
        int loops = random.nextInt(5);
        for (int i = 0; i < loops; i++) {
            int from = random.nextInt(stations);
            int to = from + random.nextInt(stations - from);
            b.append("loop ").append(from).append(' ').append(to).append(' ').append(1 + random.nextInt(7)).append(';');
        }
        int runs = random.nextInt(7);
        for (int i = 0; i < runs; i++) {
            int count = 1 + random.nextInt(wide ? 20 : 5);
            b.append("run ").append(random.nextInt(4)).append(' ').append(count).append(';');
        }
        return b.toString();
    }

    /** Everything that can be asked without moving, but for what takes long. */
    private void look() {
        for (int what = -1; what <= 10; what++) {
            due("now(" + what + ")", x.now(what), y.now(what));
        }
        for (int s = -1; s <= x.now(0); s++) {
            for (int what = -1; what <= 10; what++) {
                due("station(" + s + ", " + what + ")", ofStation(s, what), ofNaiveStation(s, what));
            }
            for (int i = -1; i <= 20; i++) {
                due("waits(" + s + ", " + i + ")", x.waits(s, i), y.waits(s, i));
            }
        }
        for (int l = -1; l <= x.now(1); l++) {
            for (int what = -1; what <= 4; what++) {
                due("loop(" + l + ", " + what + ")", x.loop(l, what), y.loop(l, what));
            }
        }
        for (int what = -1; what <= 3; what++) {
            due("bound(" + what + ")", x.bound(what), y.bound(what));
        }
    }

    private long ofStation(int s, int what) {
        try {
            return x.station(s, what);
        } catch (NoSuchElementException e) {
            return Long.MIN_VALUE;
        }
    }

    private long ofNaiveStation(int s, int what) {
        try {
            return y.station(s, what);
        } catch (NoSuchElementException e) {
            return Long.MIN_VALUE;
        }
    }

    private int odd(int low, int high) {
        switch (random.nextInt(12)) {
            case 0:
                return low - 1;
            case 1:
                return high + 1;
            case 2:
                return random.nextInt();
            case 3:
                return high;
            case 4:
                return low;
            default:
                return low + random.nextInt(high - low + 1);
        }
    }

    private void calls() {
        tell(works(random.nextInt(6) == 0));
        for (int i = 0; i < 60; i++) {
            if (random.nextInt(40) == 0) {
                tell(works(random.nextInt(6) == 0));
            }
            move();
            look();
            think();
        }
    }

    private void move() {
        int a = odd(1, random.nextInt(4) == 0 ? 999 : 30);
        int loop = odd(0, 4);
        int k = odd(1, 20);
        switch (random.nextInt(9)) {
            case 0:
            case 1:
            case 2:
                due("pass(" + a + ")", x.pass(a), y.pass(a));
                break;
            case 3:
            case 4:
                due("step()", x.step(), y.step());
                break;
            case 5:
            case 6:
                due("cards(" + loop + ", " + k + ")", x.cards(loop, k), y.cards(loop, k));
                break;
            case 7:
                due("undo()", x.undo(), y.undo());
                break;
            default:
                if (random.nextInt(3) == 0) {
                    due("anew()", x.anew(), y.anew());
                } else {
                    due("undo()", x.undo(), y.undo());
                }
                break;
        }
    }

    private void think() {
        int what = odd(0, 1);
        int n = odd(1, 200);
        int i = odd(0, 999);
        int f = odd(1, 5);
        int loop = odd(0, 3);
        int p = odd(1, random.nextBoolean() ? 99 : 4);
        int m = odd(1, 99);
        switch (random.nextInt(10)) {
            case 0:
                due("when(" + n + ", " + what + ")", x.when(n, what), y.when(n, what));
                break;
            case 1:
                due("next(" + i + ")", x.next(i), y.next(i));
                break;
            case 2:
                due("pace(" + what + ")", x.pace(what), y.pace(what));
                break;
            case 3:
                due("longer(" + f + ", " + what + ")", x.longer(f, what), y.longer(f, what));
                break;
            case 4:
                due("longest()", x.longest(), y.longest());
                break;
            case 5:
            case 6:
                due("needs(" + loop + ", " + p + ", " + m + ")", x.needs(loop, p, m), y.needs(loop, p, m));
                break;
            case 7:
                due("least(" + loop + ", " + p + ", " + m + ")", x.least(loop, p, m), y.least(loop, p, m));
                break;
            default:
                break;
        }
    }
}
