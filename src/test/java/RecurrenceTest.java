import java.util.Random;

/**
 * When a PART is begun, told by what it waits for instead of by ROUNDS: the PART before it there is through, it is
 * through at the STATION before, and, of each LOOP whose FROM it is, the PART that is K ahead of it is through at TO.
 * From these times alone follow LEADS, minutes and PACE; chance works from fixed seeds are held against them.
 */
public final class RecurrenceTest {
    private static final Checks CHECKS = new Checks();
    private static final int MOST_PARTS_OF_A_PACE = 1500;
    private static final int PARTS = 4 * MOST_PARTS_OF_A_PACE;

    private final Random random;
    private final int[][] stations;
    private final int[][] loops;
    private final int[] kinds;
    private final boolean isOfOneKind;
    private final String text;
    private final int[][] begun;
    private final int[][] through;

    private RecurrenceTest(long seed) {
        random = new Random(seed);
        int most = random.nextInt(3) == 0 ? 60 : 9;
        stations = new int[1 + random.nextInt(6)][2];
        loops = new int[1 + random.nextInt(5)][3];
        isOfOneKind = random.nextInt(4) == 0;
        int[][] runs = new int[random.nextInt(7)][2];
        StringBuilder b = new StringBuilder();
        loops[0] = new int[] {0, stations.length - 1, 1 + random.nextInt(20)};
        b.append("works ").append(loops[0][2]).append(';');
        for (int[] s : stations) {
            s[0] = 1 + random.nextInt(most);
            s[1] = random.nextInt(most + 1);
            b.append("station ").append(s[0]).append(' ').append(s[1]).append(';');
        }
        for (int i = 1; i < loops.length; i++) {
            int[] l = loops[i];
            l[0] = random.nextInt(stations.length);
            l[1] = l[0] + random.nextInt(stations.length - l[0]);
            l[2] = 1 + random.nextInt(random.nextBoolean() ? 20 : 4);
            b.append("loop ").append(l[0]).append(' ').append(l[1]).append(' ').append(l[2]).append(';');
        }
        int places = 0;
        for (int[] r : runs) {
            r[0] = isOfOneKind ? 2 : random.nextInt(4);
            r[1] = 1 + random.nextInt(most / 3);
            places += r[1];
            b.append("run ").append(r[0]).append(' ').append(r[1]).append(';');
        }
        kinds = new int[Math.max(1, places)];
        int at = 0;
        for (int[] r : runs) {
            for (int i = 0; i < r[1]; i++) {
                kinds[at++] = r[0];
            }
        }
        text = b.toString();
        begun = new int[stations.length][PARTS];
        through = new int[stations.length][PARTS];
    }

    public static void main(String[] args) {
        int works = args.length > 0 ? Integer.parseInt(args[0]) : 400;
        long first = args.length > 1 ? Long.parseLong(args[1]) : 1;
        for (long seed = first; seed < first + works && CHECKS.isRight(); seed++) {
            RecurrenceTest test = new RecurrenceTest(seed);
            CardLoops x = Checks.works(test.text);
            test.layOut(1);
            test.whenOut(x);
            test.minutesOf(x);
            for (int f = 1; f <= 5; f++) {
                test.layOut(f);
                test.paceOf(x, f);
            }
        }
        CHECKS.close();
    }

    private void due(String call, long got, long want) {
        CHECKS.due(call + " of " + text, got, want);
    }

    private boolean needsSetup(int part, int f) {
        return part > 0 && kinds[part / f % kinds.length] != kinds[(part - 1) / f % kinds.length];
    }

    private void layOut(int f) {
        for (int p = 0; p < PARTS; p++) {
            for (int s = 0; s < stations.length; s++) {
                int then = comes(s, p);
                for (int[] l : loops) {
                    if (l[0] == s && p >= l[2]) {
                        then = Math.max(then, through[l[1]][p - l[2]]);
                    }
                }
                begun[s][p] = then;
                through[s][p] = then + stations[s][0] + (needsSetup(p, f) ? stations[s][1] : 0);
            }
        }
    }

    /** From when on a PART could be begun, were it not for cards. */
    private int comes(int s, int p) {
        return Math.max(p > 0 ? through[s][p - 1] : 0, s > 0 ? through[s - 1][p] : 0);
    }

    private int[] out() {
        return through[stations.length - 1];
    }

    private void whenOut(CardLoops x) {
        for (int i = 0; i < 4; i++) {
            int n = i == 0 ? 200 : 1 + random.nextInt(200);
            due("when(" + n + ", 0)", x.when(n, 0), out()[n - 1]);
            due("when(" + n + ", 1)", x.when(n, 1), out()[n - 1] - begun[0][n - 1]);
        }
    }

    private static int within(int from, int to, int end) {
        return Math.max(0, Math.min(to, end) - from);
    }

    private void minutesOf(CardLoops x) {
        int end = 1 + random.nextInt(999);
        int parts = 0;
        while (out()[parts] <= end) {
            parts++;
        }
        due("pass(" + end + ")", x.pass(end), parts);
        for (int s = 0; s < stations.length; s++) {
            int held = 0;
            int setUp = 0;
            int worked = 0;
            for (int p = 0; p < PARTS && comes(s, p) < end; p++) {
                int begins = through[s][p] - stations[s][0];
                held += within(comes(s, p), begun[s][p], end);
                setUp += within(begun[s][p], begins, end);
                worked += within(begins, through[s][p], end);
            }
            due("station(" + s + ", 6)", x.station(s, 6), end - held - setUp - worked);
            due("station(" + s + ", 7)", x.station(s, 7), held);
            due("station(" + s + ", 8)", x.station(s, 8), setUp);
            due("station(" + s + ", 9)", x.station(s, 9), worked);
        }
    }

    /** "no PACE is above it; of one KIND PACE is just that", and PARTS do go on coming OUT by it. */
    private void paceOf(CardLoops x, int f) {
        int parts = x.longer(f, 0);
        int minutes = x.longer(f, 1);
        if (parts == CardLoops.NONE) {
            due("longer(" + f + ", 1)", minutes, CardLoops.NONE);
            return;
        }
        due("longer(" + f + ", 0) by longer(" + f + ", 1) repeats", repeats(parts, minutes) ? 1 : 0, 1);
        due("PACE is above BOUND", (long) parts * x.bound(1) > (long) x.bound(0) * minutes ? 1 : 0, 0);
        if (isOfOneKind) {
            due("longer(" + f + ", 0) of one KIND", parts, x.bound(0));
            due("longer(" + f + ", 1) of one KIND", minutes, x.bound(1));
        }
    }

    private boolean repeats(int parts, int minutes) {
        for (int period = parts; period <= MOST_PARTS_OF_A_PACE; period += parts) {
            if (repeatsBy(period, period / parts * minutes)) {
                return true;
            }
        }
        return false;
    }

    private boolean repeatsBy(int period, int minutes) {
        for (int p = MOST_PARTS_OF_A_PACE; p + period < PARTS; p++) {
            if (out()[p + period] - out()[p] != minutes) {
                return false;
            }
        }
        return true;
    }
}
