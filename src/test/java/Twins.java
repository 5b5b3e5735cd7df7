import java.util.ArrayList;
import java.util.List;

/**
 * Two objects of the same past, one of which is called once more: whatever can be asked of them tells whether
 * that call has changed anything. Each probe has twins of its own, as most probes change what they look at.
 */
final class Twins {
    interface Past {
        void live(NicheSaints x);
    }

    interface Call {
        int on(NicheSaints x);
    }

    private interface Probe {
        void look(NicheSaints x, List<Integer> seen);
    }

    private final Check check;
    private final String name;
    private final Past past;
    private final Probe[] probes = {Twins::told, Twins::left, Twins::acts, Twins::images, Twins::tape, Twins::rows};

    Twins(Check check, String name, Past past) {
        this.check = check;
        this.name = name;
        this.past = past;
    }

    NicheSaints one() {
        NicheSaints x = new NicheSaints();
        past.live(x);
        return x;
    }

    /** BAD, STATE, FULL: not even status() changes. */
    void refused(String call, Call called, int due) {
        answers(call, called, due, one().status());
    }

    /** A FINDING (1 to 5): status() tells its number, all else stays. */
    void found(String call, Call called, int number) {
        answers(call, called, -1000010 - number, number);
    }

    /** A call without a ROW that tells something. */
    void tells(String call, Call called, int due) {
        answers(call, called, due, one().status());
    }

    /** A call with a ROW, or as(), that tells something. */
    void tellsOfRow(String call, Call called, int due) {
        answers(call, called, due, 0);
    }

    private void answers(String call, Call called, int due, int status) {
        NicheSaints first = one();
        check.due(name + ": " + call, called.on(first), due);
        check.due(name + ": status() behind " + call, first.status(), status);
        for (Probe probe : probes) {
            NicheSaints x = one();
            called.on(x);
            List<Integer> seen = seen(probe, x);
            List<Integer> asEver = seen(probe, one());
            check.holds(name + ": all stays behind " + call + " (" + seen + ", not " + asEver + ")",
                    seen.equals(asEver));
        }
    }

    private static List<Integer> seen(Probe probe, NicheSaints x) {
        List<Integer> seen = new ArrayList<>();
        probe.look(x, seen);
        return seen;
    }

    private static void counted(NicheSaints x, List<Integer> seen) {
        for (int what = 0; what <= 7; what++) {
            seen.add(x.count(what));
        }
    }

    private static void told(NicheSaints x, List<Integer> seen) {
        seen.add(x.fault());
        counted(x, seen);
        for (int i = 0; i < 7; i++) {
            seen.add(x.saint(i, 0));
            seen.add(x.kind(i));
        }
    }

    /** What the latest ask left. */
    private static void left(NicheSaints x, List<Integer> seen) {
        for (int i = -1; i <= 16; i++) {
            seen.add(x.trace(i));
        }
    }

    private static void acts(NicheSaints x, List<Integer> seen) {
        for (int i = 0; i <= 24; i++) {
            seen.add(x.undo());
            seen.add(x.count(4));
        }
        counted(x, seen);
    }

    private static void images(NicheSaints x, List<Integer> seen) {
        for (int k = 0; k <= 1; k++) {
            seen.add(x.restore(k));
            counted(x, seen);
            for (int i = 0; i < 7; i++) {
                seen.add(x.kind(i));
            }
        }
    }

    /** Reads what is on the tape, with two more bytes, if there is room, so that a text broken off can be whole. */
    private static void tape(NicheSaints x, List<Integer> seen) {
        if (x.count(7) < 49) {
            seen.add(x.feed('9'));
            seen.add(x.feed(';'));
        }
        seen.add(x.saints());
        seen.add(x.fault());
        counted(x, seen);
        for (int i = 0; i < 7; i++) {
            seen.add(x.kind(i));
        }
    }

    /** Of the first three ROWS which ITEMS are 1, 2 or 0 at the first places; of all the LANE and how many ITEMS. */
    private static void rows(NicheSaints x, List<Integer> seen) {
        x.saints();
        Check.read(x, "r9;h1;h2;h0;");
        for (int row = 0; row < 8; row++) {
            for (int i = 0; row < 3 && i < 3; i++) {
                for (int saint = 0; saint < 3; saint++) {
                    seen.add(x.fits(saint, row, i, 1, 1));
                }
            }
            seen.add(x.set(row, 0, 123456789));
            seen.add(x.drop(row));
        }
    }
}
