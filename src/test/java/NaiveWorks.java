import java.util.ArrayList;
import java.util.HashMap;
import java.util.List;
import java.util.Map;

/**
 * The document once more, as literally and as slowly as can be: PARTS are objects, cards are handed about,
 * minutes pass one by one, what goes on is written out as a text, undoing plays all acts but the last again.
 * It shares nothing with CardLoops, so that the two can be held against each other.
 */
final class NaiveWorks {
    static final class Part {
        int kind;
        int begunAt;
    }

    static final class Place {
        int time;
        int setup;
        Part part;
        int setUpAt;
        int throughAt;
        int kindBefore = -1;
        List<Part> queue = new ArrayList<>();
        int[] minutes = new int[4];
    }

    static final class Ring {
        int from;
        int to;
        int k;
        int free;
    }

    private final int[][] stations;
    private final int[][] told;
    private final int[][] runs;
    private final int[] nowCards;
    private final int factor;
    final List<Place> places = new ArrayList<>();
    final List<Ring> rings = new ArrayList<>();
    int run;
    int ofRun;
    int time;
    int out;
    int begun;
    int lead;
    int longestLead;

    /** Stations: time, setup. Loops: from, to, cards, LOOP 0 the first. Runs: kind, count. */
    NaiveWorks(int[][] stations, int[][] loops, int[][] runs, int factor) {
        this.stations = stations;
        this.told = loops;
        this.runs = runs;
        this.factor = factor;
        nowCards = new int[loops.length];
        for (int i = 0; i < loops.length; i++) {
            nowCards[i] = loops[i][2];
        }
        begin();
    }

    void begin() {
        places.clear();
        rings.clear();
        for (int[] s : stations) {
            Place p = new Place();
            p.time = s[0];
            p.setup = s[1];
            places.add(p);
        }
        for (int i = 0; i < told.length; i++) {
            Ring r = new Ring();
            r.from = told[i][0];
            r.to = told[i][1];
            r.k = nowCards[i];
            r.free = r.k;
            rings.add(r);
        }
        run = 0;
        ofRun = 0;
        time = 0;
        out = 0;
        begun = 0;
        lead = -1;
        longestLead = -1;
        round();
    }

    int kindToCome() {
        return runs.length == 0 ? 0 : runs[run][0];
    }

    void takeFromRuns() {
        if (runs.length > 0) {
            ofRun++;
            if (ofRun == runs[run][1] * factor) {
                ofRun = 0;
                run = (run + 1) % runs.length;
            }
        }
    }

    boolean round() {
        boolean cameOut = false;
        for (int s = places.size() - 1; s >= 0; s--) {
            Place p = places.get(s);
            if (p.part != null && p.throughAt == time) {
                Part part = p.part;
                p.part = null;
                p.kindBefore = part.kind;
                for (Ring r : rings) {
                    if (r.to == s) {
                        r.free++;
                    }
                }
                if (s + 1 < places.size()) {
                    places.get(s + 1).queue.add(part);
                } else {
                    out++;
                    lead = time - part.begunAt;
                    longestLead = Math.max(lead, longestLead);
                    cameOut = true;
                }
            }
        }
        for (int s = places.size() - 1; s >= 0; s--) {
            tryToBegin(s);
        }
        return cameOut;
    }

    private void tryToBegin(int s) {
        Place p = places.get(s);
        if (p.part != null || (s > 0 && p.queue.isEmpty())) {
            return;
        }
        for (Ring r : rings) {
            if (r.from == s && r.free == 0) {
                return;
            }
        }
        for (Ring r : rings) {
            if (r.from == s) {
                r.free--;
            }
        }
        if (s == 0) {
            p.part = new Part();
            p.part.kind = kindToCome();
            p.part.begunAt = time;
            takeFromRuns();
            begun++;
        } else {
            p.part = p.queue.remove(0);
        }
        p.setUpAt = time;
        if (p.kindBefore != -1 && p.kindBefore != p.part.kind) {
            p.setUpAt += p.setup;
        }
        p.throughAt = p.setUpAt + p.time;
    }

    int state(int s) {
        Place p = places.get(s);
        if (p.part == null) {
            return s > 0 && p.queue.isEmpty() ? 0 : 1;
        }
        return time < p.setUpAt ? 2 : 3;
    }

    /** One minute; 2 if a PART came OUT, 1 if somebody was through, else 0. */
    int minute() {
        for (int s = 0; s < places.size(); s++) {
            places.get(s).minutes[state(s)]++;
        }
        time++;
        for (Place p : places) {
            if (p.part != null && p.throughAt == time) {
                return round() ? 2 : 1;
            }
        }
        return 0;
    }

    int cards(int loop, int k) {
        Ring r = rings.get(loop);
        if (k == r.k || r.free + k - r.k < 0) {
            return -1;
        }
        r.free += k - r.k;
        r.k = k;
        nowCards[loop] = k;
        round();
        return r.free;
    }

    int[] cardsNow() {
        return nowCards.clone();
    }

    String picture() {
        StringBuilder b = new StringBuilder();
        for (Place p : places) {
            b.append(p.part == null ? -1 : p.throughAt - time).append(',');
            b.append(p.part == null ? -1 : Math.max(0, p.setUpAt - time)).append(',');
            b.append(p.part == null ? -1 : p.part.kind).append(',').append(p.kindBefore).append('[');
            for (Part q : p.queue) {
                b.append(q.kind).append(' ');
            }
            b.append(']');
        }
        for (Ring r : rings) {
            b.append(r.free).append('/');
        }
        return b.append(run).append(':').append(ofRun).toString();
    }

    /** PARTS and minutes in lowest terms, and the PARTS that were OUT by then; null if it is not so. */
    int[] pace(int[] cards, int by, int most) {
        int[][] loops = new int[told.length][];
        for (int i = 0; i < loops.length; i++) {
            loops[i] = new int[] {told[i][0], told[i][1], cards[i]};
        }
        NaiveWorks w = new NaiveWorks(stations, loops, runs, by);
        Map<String, int[]> seen = new HashMap<>();
        while (w.out < most) {
            if (w.minute() == 2) {
                int[] before = seen.putIfAbsent(w.picture(), new int[] {w.out, w.time});
                if (before != null) {
                    int parts = w.out - before[0];
                    int minutes = w.time - before[1];
                    int g = java.math.BigInteger.valueOf(parts).gcd(java.math.BigInteger.valueOf(minutes)).intValue();
                    return new int[] {parts / g, minutes / g, w.out};
                }
            }
        }
        return null;
    }
}
