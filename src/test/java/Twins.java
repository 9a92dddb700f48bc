import java.util.NoSuchElementException;
import java.util.function.Supplier;
import java.util.function.ToLongFunction;

/**
 * What "nothing has changed" means: of two objects that were used alike one gets the call that is refused, the
 * other does not; then all that can be asked of them, and all that can be undone of them, is held side by side.
 */
final class Twins {
    private Twins() {
    }

    static void refused(Checks checks, String call, Supplier<CardLoops> made, ToLongFunction<CardLoops> refusal, long want) {
        CardLoops touched = made.get();
        CardLoops untouched = made.get();
        checks.due(call, refusal.applyAsLong(touched), want);
        alike(checks, "behind " + call, touched, untouched);
    }

    /** Spends some 250 calls of each: an object has 512. */
    static void alike(Checks checks, String name, CardLoops a, CardLoops b) {
        checks.due(name + ": fault", a.fault(), b.fault());
        checks.same(name + ": what can be asked", picture(a), picture(b));
        checks.due(name + ": what can be undone", a.now(8), b.now(8));
        int acts = b.now(8);
        for (int i = 0; i < acts; i++) {
            checks.due(name + ": undo", a.undo(), b.undo());
            checks.same(name + ": what was undone", glance(a), glance(b));
        }
        checks.due(name + ": no more to undo", a.undo(), b.undo());
        checks.due(name + ": text of the tape", a.text(), b.text());
        checks.same(name + ": the works of the tape", glance(a), glance(b));
    }

    /** All that can be asked (but for how much can be undone), in a works of few STATIONS. */
    static String picture(CardLoops x) {
        StringBuilder b = new StringBuilder(glance(x));
        int stations = x.now(0);
        for (int station = 0; station < stations; station++) {
            b.append(" station ").append(station).append(':');
            for (int what = 0; what <= 9; what++) {
                b.append(' ').append(x.station(station, what));
            }
            int waiting = x.station(station, 4);
            for (int i = 0; i < waiting; i++) {
                b.append(" w").append(x.waits(station, i));
            }
        }
        b.append(" next");
        for (int i = 0; i < 6; i++) {
            b.append(' ').append(x.next(i));
        }
        b.append(" when ").append(x.when(1, 0)).append(' ').append(x.when(1, 1));
        b.append(" pace ").append(x.pace(0)).append(' ').append(x.pace(1));
        b.append(" bound ").append(x.bound(0)).append(' ').append(x.bound(1)).append(' ').append(x.bound(2));
        return b.append(" longer ").append(x.longer(2, 0)).append(' ').append(x.longer(2, 1)).toString();
    }

    static String glance(CardLoops x) {
        StringBuilder b = new StringBuilder("now");
        for (int what = 0; what <= 7; what++) {
            b.append(' ').append(x.now(what));
        }
        b.append(" tape ").append(x.now(9));
        int loops = x.now(1);
        for (int loop = 0; loop < loops; loop++) {
            b.append(" loop ").append(loop).append(':');
            for (int what = 0; what <= 3; what++) {
                b.append(' ').append(x.loop(loop, what));
            }
        }
        return b.toString();
    }

    /** 1 for the exception that the document names, so that a throw can be told like any other refusal. */
    static long throwsNoSuch(CardLoops x, int station, int what) {
        try {
            x.station(station, what);
            return 0;
        } catch (NoSuchElementException e) {
            return 1;
        }
    }
}
