import java.util.Random;

/**
 * The document's first sentence as a whole: whatever falls, each message that was accepted comes at
 * most once, those of a class come in the order in which they were submitted, and when it is quiet
 * again none is missing but those that count as lost. The same runs each time.
 *
 * By the document's own words a message can come twice in a case that these runs don't meet (harsher
 * ones did): a link that serves though one side never heard the other's turn, since each SEEK and
 * PROVE of that turn was lost. Then nothing is remembered for the turn of the order, and the answer
 * to it settles with NONE.
 */
public final class OnceAndInOrderTest extends Checks {
    private static final int RUNS = 4000;
    private static final int MOST_CALLS = 512;
    private static final int BUSY_TICKS = 50;
    private static final int QUIET_TICKS = 90;
    private static final int TICKS_TO_START_AGAIN = 6;
    private static final int LINKS = 3;
    private static final int ENDS = 2;
    private static final int CLASSES = 4;

    private final ThreeLinkPair pair = new ThreeLinkPair();
    private final Random random;
    /** How long a fault may be: short ones hit single units, long ones let links fall. */
    private final int longestFault;
    /** By the end at which it was submitted, and class: how many were accepted; the words are 1, 2, .. */
    private final int[][] accepted = new int[ENDS][CLASSES];
    private int calls = 0;
    private int came = 0;
    private int lost = 0;

    private OnceAndInOrderTest(int seed) {
        random = new Random(seed);
        longestFault = seed % 2 == 0 ? 3 : 20;
    }

    public static void main(String[] args) {
        int startsAgain = 0;
        int all = 0;
        int lost = 0;
        for (int seed = 0; seed < RUNS; seed++) {
            part = "run " + seed;
            OnceAndInOrderTest run = new OnceAndInOrderTest(seed);
            run.goThrough();
            startsAgain += run.starts() - LINKS * ENDS;
            all += run.came;
            lost += run.lost;
            yes("at most " + MOST_CALLS + " calls (" + run.calls + ")", run.calls <= MOST_CALLS);
        }
        part = "the runs";
        yes("they let sides fall", startsAgain > RUNS);
        yes("they bring messages", all > RUNS);
        yes("they lose some", lost > 0);
        finish(all + " messages came once and in order, sides were started again " + startsAgain + " times");
    }

    private void goThrough() {
        startAll();
        for (int i = 0; i < 8; i++) {
            tick();
        }
        for (int i = 0; i < BUSY_TICKS; i++) {
            disturb();
            submitSome();
            if (i % TICKS_TO_START_AGAIN == 0) {
                startAll();
            }
            tick();
        }
        for (int i = 0; i < QUIET_TICKS; i++) {
            if (i % TICKS_TO_START_AGAIN == 0) {
                startAll();
            }
            tick();
        }
        lookAtAll();
    }

    private void tick() {
        calls++;
        pair.tick();
    }

    private void startAll() {
        for (int link = 0; link < LINKS; link++) {
            for (int end = 0; end < ENDS; end++) {
                calls++;
                pair.start(link, end);
            }
        }
    }

    private void disturb() {
        int chance = random.nextInt(100);
        int link = random.nextInt(LINKS);
        int end = random.nextInt(ENDS);
        if (chance < 6) {
            calls++;
            pair.stop(link, end);
        } else if (chance < 20) {
            calls++;
            pair.fault(link, end, LOSE + random.nextInt(2), 1 + random.nextInt(longestFault));
        }
    }

    private void submitSome() {
        for (int i = random.nextInt(3); i > 0; i--) {
            int end = random.nextInt(ENDS);
            int kind = random.nextInt(CLASSES);
            calls++;
            if (pair.submit(end, kind, accepted[end][kind] + 1)) {
                accepted[end][kind]++;
            }
        }
    }

    private void lookAtAll() {
        int due = 0;
        for (int end = 0; end < ENDS; end++) {
            calls++;
            due("held when it is quiet", pair.held(end), 0);
            takeIn(end);
            for (int kind = 0; kind < CLASSES; kind++) {
                due += accepted[end][kind];
            }
        }
        int missing = due - came;
        calls++;
        lost = pair.lost();
        // What counts as lost may have come before the link fell: so fewer may be missing.
        yes(missing + " missing, " + lost + " lost", missing >= 0 && missing <= lost);
    }

    private void takeIn(int end) {
        int[] latest = new int[CLASSES];
        calls++;
        for (int left = pair.inbox(end); left > 0; left--) {
            calls++;
            long message = pair.take(end);
            int kind = (int) (message >>> 32);
            int word = (int) message;
            yes("class " + kind + ": " + word + " behind " + latest[kind], word > latest[kind]);
            yes("class " + kind + ": " + word + " was accepted", word <= accepted[1 - end][kind]);
            latest[kind] = word;
            came++;
        }
    }

    /** How often sides were started in all. */
    private int starts() {
        int all = 0;
        for (int link = 0; link < LINKS; link++) {
            for (int end = 0; end < ENDS; end++) {
                calls++;
                all += pair.of(link, end, TURN);
            }
        }
        return all;
    }
}
