import java.util.NoSuchElementException;
import java.util.Set;
import java.util.TreeSet;

/** What the tests share: telling a text, and counting the answers that are not as due. */
final class Checks {
    private int wrong = 0;
    private int made = 0;
    private String sentence = "";
    private final Set<String> quoted = new TreeSet<>();

    /** Which sentence of the document the answers that follow are due to. */
    void sentence(String where, String quote) {
        sentence = "";
        due("DOC.md, " + where + ", says '" + quote + "'", Doc.says(where, quote), true);
        sentence = where + " '" + quote + "': ";
        quoted.add(where);
    }

    void isQuoted(String where) {
        due("a test quotes " + where, quoted.contains(where), true);
    }

    void due(String call, long got, long want) {
        if (got == want) {
            made++;
        } else {
            same(call, Long.toString(got), Long.toString(want));
        }
    }

    void due(String call, boolean got, boolean want) {
        same(call, Boolean.toString(got), Boolean.toString(want));
    }

    void same(String call, String got, String want) {
        made++;
        if (!got.equals(want)) {
            wrong++;
            if (wrong <= 50) {
                System.out.println(sentence + call + " answered " + got + ", due is " + want);
            }
        }
    }

    void isThrown(CardLoops x, int station, int what) {
        boolean thrown = false;
        try {
            x.station(station, what);
        } catch (NoSuchElementException e) {
            thrown = true;
        }
        due("station(" + station + ", " + what + ") throws", thrown, true);
    }

    boolean isRight() {
        return wrong == 0;
    }

    void close() {
        System.out.println(wrong == 0 ? made + " answers are as due" : wrong + " answers are not as due");
        if (wrong != 0) {
            System.exit(1);
        }
    }

    /** Puts the text's bytes behind the tape. */
    static void put(CardLoops x, String text) {
        int before = x.now(9);
        int length = text.length();
        for (int at = 0; at < length; at += 20) {
            x.feed(number(text, at), number(text, at + 4), number(text, at + 8), number(text, at + 12), number(text, at + 16));
        }
        x.end(before + length);
    }

    static int number(String text, int at) {
        int number = 0;
        for (int i = at; i < at + 4; i++) {
            number = number << 8 | (i < text.length() ? text.charAt(i) & 255 : 0);
        }
        return number;
    }

    static int tell(CardLoops x, String text) {
        put(x, text);
        return x.text();
    }

    static CardLoops works(String text) {
        CardLoops x = new CardLoops();
        if (tell(x, text) < 0) {
            System.out.println("a test tells a text with a fault: " + text);
            System.exit(1);
        }
        return x;
    }

    static String times(String piece, int n) {
        return piece.repeat(n);
    }
}
