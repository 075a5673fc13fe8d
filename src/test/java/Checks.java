/** What the tests share: calls with the answer that is due, and runs that bring links to serve. */
abstract class Checks {
    static final int OUT = 0;
    static final int SEEKING = 1;
    static final int PROVING = 2;
    static final int READY = 3;
    static final int SERVING = 4;

    static final int AGE = 0;
    static final int ERRORS = 1;
    static final int TRIES = 2;
    static final int BUCKET = 3;
    static final int IDLE = 4;
    static final int FORE = 5;
    static final int BACK = 6;
    static final int FORE_BIT = 7;
    static final int BACK_BIT = 8;
    static final int SENT = 9;
    static final int QUEUED = 10;
    static final int TURN = 11;
    static final int HEARD = 12;

    static final int LOSE = 1;
    static final int DAMAGE = 2;

    interface Call {
        void make();
    }

    /** What is tested just now: a promise, or the words of a sentence of the document. */
    static String part = "";

    private static int wrong = 0;

    static void finish(String allIsRight) {
        System.out.println(wrong == 0 ? allIsRight : wrong + " answers are not as due");
        if (wrong != 0) {
            System.exit(1);
        }
    }

    private static void tellWrong(String text) {
        wrong++;
        System.out.println(part + ": " + text);
    }

    static void due(String what, long got, long want) {
        if (got != want) {
            tellWrong(what + " is " + got + ", due is " + want);
        }
    }

    static void same(String what, String got, String want) {
        if (!got.equals(want)) {
            tellWrong(what + " is " + got + ", due is " + want);
        }
    }

    static void yes(String what, boolean got) {
        due(what, got ? 1 : 0, 1);
    }

    static void no(String what, boolean got) {
        due(what, got ? 1 : 0, 0);
    }

    static void refused(String what, Class<?> want, Call call) {
        Class<?> got = null;
        try {
            call.make();
        } catch (RuntimeException e) {
            got = e.getClass();
        }
        if (got != want) {
            tellWrong(what + " throws " + got + ", due is " + want);
        }
    }

    static void noSuchIndex(String what, Call call) {
        refused(what, IndexOutOfBoundsException.class, call);
    }

    static void ticks(ThreeLinkPair x, int count) {
        for (int i = 0; i < count; i++) {
            x.tick();
        }
    }

    static void startBoth(ThreeLinkPair x, int... links) {
        for (int link : links) {
            yes("start", x.start(link, 0));
            yes("start", x.start(link, 1));
        }
    }

    static void stopBoth(ThreeLinkPair x, int... links) {
        for (int link : links) {
            yes("stop", x.stop(link, 0));
            yes("stop", x.stop(link, 1));
        }
    }

    static void bothAre(ThreeLinkPair x, int link, int state) {
        due("state of link " + link + " at end 0", x.state(link, 0), state);
        due("state of link " + link + " at end 1", x.state(link, 1), state);
    }

    /** A new object on which these links serve: SEEK, PROVE for six ticks, READY, SERVING. */
    static ThreeLinkPair serving(int... links) {
        ThreeLinkPair x = new ThreeLinkPair();
        startBoth(x, links);
        ticks(x, 8);
        for (int link : links) {
            bothAre(x, link, SERVING);
        }
        return x;
    }

    static void submitAll(ThreeLinkPair x, int end, int kind, int... words) {
        for (int word : words) {
            yes("submit of " + word, x.submit(end, kind, word));
        }
    }

    /** A message as take answers it; the word is one without a minus. */
    static long message(int kind, int word) {
        return ((long) kind << 32) + word;
    }

    static void takeAll(ThreeLinkPair x, int end, long... messages) {
        due("inbox", x.inbox(end), messages.length);
        for (long message : messages) {
            if (x.inbox(end) > 0) {
                due("take", x.take(end), message);
            }
        }
    }

    /** What of shows of a side, from 0 on. */
    static void shows(ThreeLinkPair x, int link, int end, int... values) {
        for (int what = 0; what < values.length; what++) {
            due("of(" + link + ", " + end + ", " + what + ")", x.of(link, end, what), values[what]);
        }
    }

    /** All that the calls show without changing anything. */
    static String allShown(ThreeLinkPair x) {
        StringBuilder all = new StringBuilder();
        for (int end = 0; end < 2; end++) {
            for (int link = 0; link < 3; link++) {
                all.append(" side ").append(link).append('/').append(end).append(':').append(x.state(link, end));
                for (int what = 0; what <= HEARD; what++) {
                    all.append(',').append(x.of(link, end, what));
                }
                all.append(" changes ").append(x.changes(link, end));
            }
            for (int kind = 0; kind < 4; kind++) {
                all.append(" link ").append(x.link(end, kind));
            }
            all.append(" held ").append(x.held(end)).append(" inbox ").append(x.inbox(end));
        }
        return all.append(" lost ").append(x.lost()).toString();
    }

    /** How many messages wait on a side or were sent there without an answer. */
    static int underWay(ThreeLinkPair x, int link, int end) {
        return x.of(link, end, SENT) + x.of(link, end, QUEUED);
    }

    /**
     * Lets link 0 serve between turn 1 of end 0 and turn 2 of end 1, of which end 0 did not hear:
     * so the orders of end 1 about it settle nothing at end 0.
     */
    static void serveUnheard(ThreeLinkPair x) {
        startBoth(x, 0);
        ticks(x, 2);
        due("heard", x.of(0, 0, HEARD), 1);
        x.stop(0, 1);
        x.start(0, 1);
        x.fault(0, 0, LOSE, 7);
        ticks(x, 9);
        due("it did not hear of turn 2", x.of(0, 0, HEARD), 1);
        due("the turn", x.of(0, 1, TURN), 2);
        bothAre(x, 0, SERVING);
    }
}
