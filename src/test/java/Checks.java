import java.util.NoSuchElementException;

/** What the tests share: telling a text, and counting the answers that are not as due. */
final class Checks {
    private int wrong = 0;
    private int made = 0;

    void due(String call, long got, long want) {
        made++;
        if (got != want) {
            wrong++;
            if (wrong <= 50) {
                System.out.println(call + " answered " + got + ", due is " + want);
            }
        }
    }

    void due(String call, boolean got, boolean want) {
        due(call, got ? 1 : 0, want ? 1 : 0);
    }

    void isThrown(CardLoops x, int station, int what) {
        boolean thrown = false;
        try {
            x.station(station, what);
        } catch (NoSuchElementException e) {
            thrown = true;
        }
        due("station(" + station + ", " + what + ") throws", thrown, true);
    }

    boolean isRight() {
        return wrong == 0;
    }

    void close() {
        System.out.println(wrong == 0 ? made + " answers are as due" : wrong + " answers are not as due");
        if (wrong != 0) {
            System.exit(1);
        }
    }

    /** Puts the text's bytes behind the tape. */
    static void put(CardLoops x, String text) {
        int before = x.now(9);
        int length = text.length();
        for (int at = 0; at < length; at += 20) {
            x.feed(number(text, at), number(text, at + 4), number(text, at + 8), number(text, at + 12), number(text, at + 16));
        }
        x.end(before + length);
    }

    private static int number(String text, int at) {
        int number = 0;
        for (int i = at; i < at + 4; i++) {
            number = number << 8 | (i < text.length() ? text.charAt(i) & 255 : 0);
        }
        return number;
    }

    static int tell(CardLoops x, String text) {
        put(x, text);
        return x.text();
    }

    static CardLoops works(String text) {
        CardLoops x = new CardLoops();
        if (tell(x, text) < 0) {
            System.out.println("a test tells a text with a fault: " + text);
            System.exit(1);
        }
        return x;
    }

    static String times(String piece, int n) {
        return piece.repeat(n);
    }
}
