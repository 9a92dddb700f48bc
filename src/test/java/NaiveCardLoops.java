import java.util.ArrayList;
import java.util.List;
import java.util.NoSuchElementException;
import java.util.regex.Matcher;
import java.util.regex.Pattern;

/** The document's whole face once more, over NaiveWorks: slow, literal, sharing nothing with CardLoops. */
final class NaiveCardLoops {
    private static final class Bad extends Exception {
        private static final long serialVersionUID = 1;
        final int kind;
        final int place;

        Bad(int kind, int place) {
            this.kind = kind;
            this.place = place;
        }
    }

    private static final class Token {
        final String text;
        final int place;

        Token(String text, int place) {
            this.text = text;
            this.place = place;
        }
    }

    private static final Pattern LUMP = Pattern.compile("[a-z0-9]+|[^ \\n]", Pattern.DOTALL);

    private String tape = "";
    private int fault = 0;
    private int[][] stations = {};
    private int[][] loops = {};
    private int[][] runs = {};
    private NaiveWorks works;
    /** All acts since the text; undoing can go back over the latest eight of them. */
    private final List<int[]> acts = new ArrayList<>();
    private int canUndo = 0;

    int feed(int a, int b, int c, int d, int e) {
        if (tape.length() + 20 > 440) {
            return -1;
        }
        StringBuilder more = new StringBuilder(tape);
        for (int n : new int[] {a, b, c, d, e}) {
            more.append((char) (n >> 24 & 255)).append((char) (n >> 16 & 255));
            more.append((char) (n >> 8 & 255)).append((char) (n & 255));
        }
        tape = more.toString();
        return tape.length();
    }

    boolean end(int n) {
        if (n < 0 || n > tape.length()) {
            return false;
        }
        tape = tape.substring(0, n);
        return true;
    }

    private List<Token> tokens(String text) {
        List<Token> all = new ArrayList<>();
        Matcher m = LUMP.matcher(text);
        while (m.find()) {
            if (text.length() > 400 && m.start() >= 400) {
                break;
            }
            all.add(new Token(m.group(), m.start()));
        }
        all.add(new Token("", Math.min(400, text.length())));
        return all;
    }

    int text() {
        String text = tape;
        tape = "";
        try {
            int lines = parse(text);
            fault = 0;
            return lines;
        } catch (Bad bad) {
            fault = bad.kind;
            return -1 - bad.place;
        }
    }

    private static int number(Token t, int low, int high) throws Bad {
        if (!t.text.matches("[0-9]{1,2}")) {
            throw new Bad(1, t.place);
        }
        int value = Integer.parseInt(t.text);
        if (value < low || value > high) {
            throw new Bad(2, t.place);
        }
        return value;
    }

    private int parse(String text) throws Bad {
        List<Token> all = tokens(text);
        List<int[]> s = new ArrayList<>();
        List<int[]> l = new ArrayList<>();
        List<int[]> r = new ArrayList<>();
        int lines = 0;
        int at = 0;
        while (!all.get(at).text.isEmpty()) {
            Token word = all.get(at++);
            int[] row;
            if (lines == 0 && word.text.equals("works")) {
                row = new int[] {0, 0, number(all.get(at++), 1, 20)};
                l.add(row);
            } else if (lines > 0 && word.text.equals("station")) {
                if (s.size() == 6) {
                    throw new Bad(3, word.place);
                }
                row = new int[2];
                row[0] = number(all.get(at++), 1, 60);
                row[1] = number(all.get(at++), 0, 60);
                s.add(row);
            } else if (lines > 0 && word.text.equals("loop")) {
                if (l.size() == 5) {
                    throw new Bad(3, word.place);
                }
                row = new int[3];
                row[0] = number(all.get(at++), 0, s.size() - 1);
                row[1] = number(all.get(at++), row[0], s.size() - 1);
                row[2] = number(all.get(at++), 1, 20);
                l.add(row);
            } else if (lines > 0 && word.text.equals("run")) {
                if (r.size() == 6) {
                    throw new Bad(3, word.place);
                }
                row = new int[2];
                row[0] = number(all.get(at++), 0, 3);
                row[1] = number(all.get(at++), 1, 20);
                r.add(row);
            } else {
                throw new Bad(1, word.place);
            }
            Token sign = all.get(at++);
            if (!sign.text.equals(";")) {
                throw new Bad(1, sign.place);
            }
            lines++;
        }
        if (text.length() > 400 || (lines > 0 && s.isEmpty())) {
            throw new Bad(1, all.get(at).place);
        }
        if (lines > 0) {
            l.get(0)[1] = s.size() - 1;
        }
        stations = s.toArray(new int[0][]);
        loops = l.toArray(new int[0][]);
        runs = r.toArray(new int[0][]);
        acts.clear();
        canUndo = 0;
        works = lines == 0 ? null : new NaiveWorks(stations, loops, runs, 1);
        return lines;
    }

    int fault() {
        return fault;
    }

    int now(int what) {
        if (what == 8) {
            return canUndo;
        }
        if (what == 9) {
            return tape.length();
        }
        if (works == null) {
            return what >= 0 && what <= 5 ? 0 : -1;
        }
        int[] row = {stations.length, loops.length, runs.length, works.time, works.out, works.begun - works.out,
            works.lead, works.longestLead};
        return what >= 0 && what < row.length ? row[what] : -1;
    }

    int station(int station, int what) {
        if (station < 0 || station >= stations.length || what < 0 || what > 9) {
            throw new NoSuchElementException();
        }
        NaiveWorks.Place p = works.places.get(station);
        boolean idle = p.part == null;
        int[] row = {p.time, p.setup, works.state(station), idle ? -1 : p.part.kind, p.queue.size(),
            idle ? -1 : p.throughAt, p.minutes[0], p.minutes[1], p.minutes[2], p.minutes[3]};
        return row[what];
    }

    int waits(int station, int i) {
        if (station < 0 || station >= stations.length || i < 0 || i >= works.places.get(station).queue.size()) {
            return -1;
        }
        return works.places.get(station).queue.get(i).kind;
    }

    int loop(int loop, int what) {
        if (loop < 0 || loop >= loops.length || what < 0 || what > 3) {
            return -1;
        }
        NaiveWorks.Ring r = works.rings.get(loop);
        return new int[] {r.from, r.to, r.k, r.free}[what];
    }

    int next(int i) {
        if (works == null || i < 0 || i > 999) {
            return -1;
        }
        NaiveWorks w = replay(acts.size());
        for (int n = 0; n < i; n++) {
            w.takeFromRuns();
        }
        return w.kindToCome();
    }

    int when(int n, int what) {
        if (works == null || n < 1 || n > 200 || what < 0 || what > 1) {
            return -1;
        }
        NaiveWorks w = replay(acts.size());
        int goal = w.out + n;
        while (w.out < goal) {
            w.minute();
        }
        return what == 0 ? w.time : w.lead;
    }

    int pace(int what) {
        return longer(1, what);
    }

    int bound(int what) {
        if (works == null || what < 0 || what > 2) {
            return -1;
        }
        List<int[]> all = new ArrayList<>();
        for (int l = 0; l < loops.length; l++) {
            all.add(new int[] {works.rings.get(l).k, minutes(l), l});
        }
        for (int s = 0; s < stations.length; s++) {
            all.add(new int[] {1, stations[s][0], 100 + s});
        }
        int[] tight = all.get(0);
        for (int[] ring : all) {
            if ((double) ring[1] / ring[0] > (double) tight[1] / tight[0] + 1e-9) {
                tight = ring;
            }
        }
        for (int g = 360; g > 1; g--) {
            if (tight[0] % g == 0 && tight[1] % g == 0) {
                tight = new int[] {tight[0] / g, tight[1] / g, tight[2]};
            }
        }
        return tight[what];
    }

    private int minutes(int loop) {
        int sum = 0;
        for (int s = loops[loop][0]; s <= loops[loop][1]; s++) {
            sum += stations[s][0];
        }
        return sum;
    }

    private boolean isPromise(int loop, int n, int m) {
        return loop >= 0 && loop < loops.length && n >= 1 && n <= 99 && m >= 1 && m <= 99;
    }

    int needs(int loop, int n, int m) {
        if (!isPromise(loop, n, m)) {
            return -1;
        }
        int k = 1;
        while (k * m < n * minutes(loop)) {
            k++;
        }
        return k;
    }

    int least(int loop, int n, int m) {
        if (!isPromise(loop, n, m)) {
            return -1;
        }
        int[] cards = works.cardsNow();
        for (int k = 1; k <= 20; k++) {
            cards[loop] = k;
            int[] pace = works.pace(cards, 1, 1500);
            if (pace != null && pace[0] * m >= n * pace[1]) {
                return k;
            }
        }
        return -2;
    }

    int longer(int f, int what) {
        if (works == null || f < 1 || f > 5 || what < 0 || what > 1) {
            return -1;
        }
        int[] pace = works.pace(works.cardsNow(), f, 1500);
        return pace == null ? -1 : pace[what];
    }

    int longest() {
        if (works == null) {
            return -1;
        }
        int best = -1;
        long[] top = {0, 1};
        for (int f = 1; f <= 5; f++) {
            int[] pace = works.pace(works.cardsNow(), f, 1500);
            if (pace != null && pace[0] * top[1] > top[0] * pace[1]) {
                best = f;
                top = new long[] {pace[0], pace[1]};
            }
        }
        return best;
    }

    private int act(int[] act) {
        int answer = play(works, act);
        acts.add(act);
        canUndo = Math.min(8, canUndo + 1);
        return answer;
    }

    /** An act: 0 and minutes, 1 loop and cards, 2 for anew. */
    private static int play(NaiveWorks w, int[] act) {
        if (act[0] == 0) {
            int before = w.out;
            for (int i = 0; i < act[1]; i++) {
                w.minute();
            }
            return w.out - before;
        }
        if (act[0] == 1) {
            return w.cards(act[1], act[2]);
        }
        w.begin();
        return w.begun - w.out;
    }

    private NaiveWorks replay(int howMany) {
        NaiveWorks w = new NaiveWorks(stations, loops, runs, 1);
        for (int i = 0; i < howMany; i++) {
            play(w, acts.get(i));
        }
        return w;
    }

    int pass(int n) {
        if (works == null || n < 1 || n > 999 || works.time + n > 99999) {
            return -1;
        }
        return act(new int[] {0, n});
    }

    int step() {
        if (works == null) {
            return -1;
        }
        NaiveWorks w = replay(acts.size());
        while (w.minute() == 0) {
            continue;
        }
        if (w.time > 99999) {
            return -1;
        }
        act(new int[] {0, w.time - works.time});
        return works.time;
    }

    int cards(int loop, int k) {
        if (loop < 0 || loop >= loops.length || k < 1 || k > 20) {
            return -1;
        }
        NaiveWorks.Ring r = works.rings.get(loop);
        if (r.k == k || r.k - k > r.free) {
            return -1;
        }
        return act(new int[] {1, loop, k});
    }

    int anew() {
        return works == null ? -1 : act(new int[] {2});
    }

    int undo() {
        if (canUndo == 0) {
            return -1;
        }
        acts.remove(acts.size() - 1);
        works = replay(acts.size());
        canUndo--;
        return canUndo;
    }
}
