import java.util.ArrayList;
import java.util.List;
import java.util.NoSuchElementException;

/** Long mixed runs, the same ones each time: every answer, and all that is shown, as in PlainModel. */
public final class AgainstModelTest {
    private static final int RUNS = 6000;
    private static final int CALLS = 512;
    private static final int ODD_ARGUMENT = 120;

    private final ThreeLinkPair pair = new ThreeLinkPair();
    private final PlainModel model = new PlainModel();
    private final List<String> calls = new ArrayList<>();
    private final int manner;
    private long seed;
    private int word = 1;

    private AgainstModelTest(int run) {
        seed = run * 7919L + 17;
        manner = run % 6;
    }

    public static void main(String[] args) {
        for (int run = 0; run < RUNS; run++) {
            String difference = new AgainstModelTest(run).differs();
            if (difference != null) {
                System.out.println("run " + run + ": " + difference);
                System.exit(1);
            }
        }
        System.out.println(RUNS + " runs of " + CALLS + " calls are as in the model");
    }

    private int pick(int bound) {
        seed = seed * 6364136223846793005L + 1442695040888963407L;
        return (int) ((seed >>> 33) % bound);
    }

    private int argument(int bound) {
        if (pick(ODD_ARGUMENT) == 0) {
            int[] odd = {-1, bound, Integer.MIN_VALUE, Integer.MAX_VALUE};
            return odd[pick(odd.length)];
        }
        return pick(bound);
    }

    private String differs() {
        String difference = null;
        for (int link = 0; link < 3 && difference == null; link++) {
            for (int end = 0; end < 2 && difference == null; end++) {
                difference = manner == 5 && link > 0 ? null : call("start", link, end, 0, 0);
            }
        }
        while (difference == null && calls.size() < CALLS) {
            difference = next();
        }
        return difference;
    }

    /** The manners differ in how often sides are stopped, started again and disturbed. */
    private String next() {
        int[] stops = {2, 8, 1, 15, 4, 6};
        int[] starts = {30, 60, 20, 60, 25, 60};
        int[] faults = {6, 6, 14, 10, 3, 12};
        int[] submits = {60, 50, 70, 30, 90, 45};
        int choice = pick(200);
        int bound = stops[manner];
        if (choice < bound) {
            return call("stop", argument(3), argument(2), 0, 0);
        }
        bound += starts[manner];
        if (choice < bound) {
            return call("start", argument(3), argument(2), 0, 0);
        }
        bound += faults[manner];
        if (choice < bound) {
            int n = pick(8) == 0 ? argument(100) : pick(manner == 3 ? 16 : 6);
            return call("fault", argument(3), argument(2), argument(3), n);
        }
        bound += submits[manner];
        if (choice < bound) {
            int sign = pick(4) == 0 ? -1 : 1;
            return call("submit", argument(2), argument(4), sign * word++, 0);
        }
        if (choice < bound + 8) {
            return call("take", argument(2), 0, 0, 0);
        }
        return call("tick", 0, 0, 0, 0);
    }

    private String call(String name, int a, int b, int c, int d) {
        calls.add(name + "(" + a + ", " + b + ", " + c + ", " + d + ")");
        String got;
        try {
            got = ofPair(name, a, b, c, d);
        } catch (IndexOutOfBoundsException | IllegalArgumentException | NoSuchElementException e) {
            got = e.getClass().getName();
        }
        String want;
        try {
            want = ofModel(name, a, b, c, d);
        } catch (IndexOutOfBoundsException | IllegalArgumentException | NoSuchElementException e) {
            want = e.getClass().getName();
        }
        String where = "call " + calls.size() + ", " + calls.get(calls.size() - 1);
        if (!got.equals(want)) {
            return where + " answered " + got + ", due is " + want + " after " + calls;
        }
        String shown = shownDifference();
        return shown == null ? null : where + ": then " + shown + " after " + calls;
    }

    private String ofPair(String name, int a, int b, int c, int d) {
        switch (name) {
            case "start": return "" + pair.start(a, b);
            case "stop": return "" + pair.stop(a, b);
            case "submit": return "" + pair.submit(a, b, c);
            case "take": return "" + pair.take(a);
            case "tick": return "" + pair.tick();
            default: pair.fault(a, b, c, d); return "nothing";
        }
    }

    private String ofModel(String name, int a, int b, int c, int d) {
        switch (name) {
            case "start": return "" + model.start(a, b);
            case "stop": return "" + model.stop(a, b);
            case "submit": return "" + model.submit(a, b, c);
            case "take": return "" + model.take(a);
            case "tick": return "" + model.tick();
            default: model.fault(a, b, c, d); return "nothing";
        }
    }

    private String shownDifference() {
        for (int end = 0; end < 2; end++) {
            for (int link = 0; link < 3; link++) {
                if (pair.state(link, end) != model.state(link, end)) {
                    return "state(" + link + ", " + end + ") is " + pair.state(link, end);
                }
                if (pair.changes(link, end) != model.changes(link, end)) {
                    return "changes(" + link + ", " + end + ") is " + pair.changes(link, end);
                }
                for (int what = 0; what <= 12; what++) {
                    if (pair.of(link, end, what) != model.of(link, end, what)) {
                        return "of(" + link + ", " + end + ", " + what + ") is " + pair.of(link, end, what);
                    }
                }
            }
            for (int kind = 0; kind < 4; kind++) {
                if (pair.link(end, kind) != model.link(end, kind)) {
                    return "link(" + end + ", " + kind + ") is " + pair.link(end, kind);
                }
            }
            if (pair.held(end) != model.held(end) || pair.inbox(end) != model.inbox(end)) {
                return "held or inbox of end " + end + " is " + pair.held(end) + " or " + pair.inbox(end);
            }
        }
        return pair.lost() == model.lost() ? null : "lost() is " + pair.lost();
    }
}
