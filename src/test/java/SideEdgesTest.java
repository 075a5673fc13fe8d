/** The boundary cases of a side that "Terms" names, each sentence by a run of its own. */
public final class SideEdgesTest extends Checks {
    public static void main(String[] args) {
        aSide();
        whenItIsStarted();
        toFall();
        aStatusComes();
        aFillOrMessageComes();
        aUnitComesDamaged();
        itAges();
        itSends();
        finish("every edge of a side holds");
    }

    // A SIDE has a state, an age, a turn and what it heard

    private static void aSide() {
        ageIsZeroInANewState();
        turnCountsStarts();
        heardIsZeroAtFirst();
    }

    private static void ageIsZeroInANewState() {
        part = "an AGE, 0 when it comes to a state";
        ThreeLinkPair x = new ThreeLinkPair();
        x.start(0, 0);
        due("age when SEEKING", x.of(0, 0, AGE), 0);
        ticks(x, 5);
        due("it aged", x.of(0, 0, AGE), 5);
        x.start(0, 1);
        ticks(x, 2);
        due("state", x.state(0, 0), PROVING);
        due("age, which grew once in this tick", x.of(0, 0, AGE), 1);
        ticks(x, 5);
        bothAre(x, 0, READY);
        due("age when READY", x.of(0, 0, AGE), 0);
        x.fault(0, 0, LOSE, 3);
        ticks(x, 3);
        due("it aged", x.of(0, 0, AGE), 3);
        ticks(x, 1);
        due("state", x.state(0, 0), SERVING);
        due("age when SERVING", x.of(0, 0, AGE), 0);
        ticks(x, 3);
        due("age later", x.of(0, 0, AGE), 0);
        ThreeLinkPair y = new ThreeLinkPair();
        y.start(0, 0);
        ticks(y, 4);
        y.stop(0, 0);
        due("age when OUT", y.of(0, 0, AGE), 0);
        ticks(y, 20);
        due("age later", y.of(0, 0, AGE), 0);
    }

    private static void turnCountsStarts() {
        part = "a TURN, how often it was started";
        ThreeLinkPair x = new ThreeLinkPair();
        for (int turn = 1; turn <= 40; turn++) {
            x.start(0, 1);
            x.start(0, 1);
            due("turn", x.of(0, 1, TURN), turn);
            x.stop(0, 1);
            x.stop(0, 1);
            due("turn after the fall", x.of(0, 1, TURN), turn);
        }
        due("turn of the other side", x.of(0, 0, TURN), 0);
    }

    private static void heardIsZeroAtFirst() {
        part = "the turn that it HEARD of the other side last (0 at first)";
        ThreeLinkPair x = new ThreeLinkPair();
        due("heard", x.of(0, 1, HEARD), 0);
        for (int turn = 1; turn <= 20; turn++) {
            x.start(0, 0);
            x.stop(0, 0);
        }
        x.start(0, 0);
        x.tick();
        due("nothing came yet", x.of(0, 1, HEARD), 0);
        x.fault(0, 1, LOSE, 1);
        x.tick();
        due("lost", x.of(0, 1, HEARD), 0);
        x.fault(0, 1, DAMAGE, 1);
        x.tick();
        due("damaged", x.of(0, 1, HEARD), 0);
        x.tick();
        due("heard the latest turn", x.of(0, 1, HEARD), 21);
        due("the other side heard nothing", x.of(0, 0, HEARD), 0);
    }

    // When it is started, all else that it has (but what it heard) is as at first

    private static void whenItIsStarted() {
        startMakesNumbersAndBitsNew();
        startMakesErrorsAndTriesNew();
        startMakesBucketNew();
        startMakesGoodNew();
        startMakesIdleNew();
        startLeavesWhatItHeard();
        startLeavesNothingToSend();
    }

    private static void startMakesNumbersAndBitsNew() {
        part = "started: FORE 7 and BACK 7, both its bits 1";
        ThreeLinkPair x = serving(0);
        submitAll(x, 0, 0, 1, 2);
        submitAll(x, 1, 0, 3);
        x.tick();
        x.fault(0, 1, LOSE, 1);
        ticks(x, 5);
        stopBoth(x, 0);
        int[] shown0 = {1, 0, 0, 1};
        int[] shown1 = {0, 1, 1, 0};
        for (int i = 0; i < 4; i++) {
            due("of " + (FORE + i) + " at end 0 before", x.of(0, 0, FORE + i), shown0[i]);
            due("of " + (FORE + i) + " at end 1 before", x.of(0, 1, FORE + i), shown1[i]);
        }
        startBoth(x, 0);
        for (int end = 0; end < 2; end++) {
            due("FORE", x.of(0, end, FORE), 7);
            due("BACK", x.of(0, end, BACK), 7);
            due("FORE BIT", x.of(0, end, FORE_BIT), 1);
            due("BACK BIT", x.of(0, end, BACK_BIT), 1);
        }
    }

    private static void startMakesErrorsAndTriesNew() {
        part = "started: no ERRORS, TRIES";
        ThreeLinkPair x = new ThreeLinkPair();
        startBoth(x, 0);
        ticks(x, 2);
        x.fault(0, 0, DAMAGE, 3);
        ticks(x, 3);
        x.stop(0, 0);
        due("errors before", x.of(0, 0, ERRORS), 1);
        due("tries before", x.of(0, 0, TRIES), 1);
        x.start(0, 0);
        due("errors", x.of(0, 0, ERRORS), 0);
        due("tries", x.of(0, 0, TRIES), 0);
    }

    private static void startMakesBucketNew() {
        part = "started: no BUCKET";
        ThreeLinkPair x = serving(0);
        x.fault(0, 0, DAMAGE, 4);
        ticks(x, 4);
        due("state", x.state(0, 0), OUT);
        due("BUCKET before", x.of(0, 0, BUCKET), 4);
        x.start(0, 0);
        due("BUCKET", x.of(0, 0, BUCKET), 0);
    }

    private static void startMakesGoodNew() {
        part = "started: no GOOD ones";
        ThreeLinkPair x = serving(0);
        ticks(x, 4);
        stopBoth(x, 0);
        startBoth(x, 0);
        ticks(x, 8);
        bothAre(x, 0, SERVING);
        x.fault(0, 0, DAMAGE, 1);
        ticks(x, 7);
        due("six more good ones than that by which it serves", x.of(0, 0, BUCKET), 1);
        ticks(x, 1);
        due("the seventh", x.of(0, 0, BUCKET), 0);
    }

    private static void startMakesIdleNew() {
        part = "started: no IDLE ticks";
        ThreeLinkPair x = serving(0);
        submitAll(x, 0, 0, 1);
        x.fault(0, 1, LOSE, 99);
        ticks(x, 13);
        due("state", x.state(0, 0), OUT);
        due("IDLE before", x.of(0, 0, IDLE), 12);
        x.start(0, 0);
        due("IDLE", x.of(0, 0, IDLE), 0);
    }

    private static void startLeavesWhatItHeard() {
        part = "started: all else that it has (but what it heard)";
        ThreeLinkPair x = new ThreeLinkPair();
        x.start(0, 0);
        ticks(x, 2);
        due("heard when OUT", x.of(0, 1, HEARD), 1);
        x.fault(0, 1, LOSE, 99);
        x.start(0, 1);
        due("heard when started", x.of(0, 1, HEARD), 1);
        x.tick();
        due("heard later", x.of(0, 1, HEARD), 1);
        x.stop(0, 1);
        due("heard when it fell", x.of(0, 1, HEARD), 1);
    }

    private static void startLeavesNothingToSend() {
        part = "started: nothing SENT and nothing QUEUED";
        ThreeLinkPair x = serving(0);
        submitAll(x, 0, 0, 1, 2, 3);
        ticks(x, 2);
        x.stop(0, 0);
        x.start(0, 0);
        due("sent", x.of(0, 0, SENT), 0);
        due("queued", x.of(0, 0, QUEUED), 0);
    }

    // TO FALL

    private static void toFall() {
        fallSaysOutOnce();
        fallSaysNothingWhenStartedFirst();
        fallTwiceSaysOutOnce();
        fallLeavesWhatIsShown();
        fallLeavesNothingSentOrQueued();
        fallWhenNotServing();
        fallWhenServing();
        fallWhenReadyIsNotRemembered();
        fallIsRememberedInPlaceOfSixteenLess();
        fallIsRememberedForItsTurnAlone();
    }

    private static void fallSaysOutOnce() {
        part = "TO FALL: it is OUT and says so once";
        ThreeLinkPair x = new ThreeLinkPair();
        x.start(0, 0);
        ticks(x, 14);
        due("SEEK came", x.tick(), 1);
        due("it fell by its age", x.state(0, 0), OUT);
        due("OUT comes", x.tick(), 1);
        due("nothing more", x.tick() + x.tick(), 0);
    }

    private static void fallSaysNothingWhenStartedFirst() {
        part = "TO FALL: not when it is started before it sends";
        ThreeLinkPair x = new ThreeLinkPair();
        startBoth(x, 0);
        ticks(x, 4);
        x.stop(0, 0);
        x.start(0, 0);
        x.fault(0, 0, LOSE, 1);
        ticks(x, 2);
        due("no OUT came to the PROVING side", x.state(0, 1), PROVING);
        due("but SEEK with turn 2", x.of(0, 1, HEARD), 2);
        x.stop(0, 0);
        x.tick();
        x.start(0, 0);
        x.tick();
        due("OUT came when it was started after it sent", x.state(0, 1), OUT);
    }

    private static void fallTwiceSaysOutOnce() {
        part = "TO FALL: says so once, though it fell twice before it sent";
        ThreeLinkPair x = new ThreeLinkPair();
        x.start(0, 0);
        x.stop(0, 0);
        x.start(0, 0);
        x.stop(0, 0);
        due("nothing was sent yet", x.tick(), 0);
        due("OUT comes", x.tick(), 1);
        due("once", x.tick() + x.tick(), 0);
    }

    private static void fallLeavesWhatIsShown() {
        part = "TO FALL: all else that is shown of it stays until it is started";
        ThreeLinkPair x = serving(0);
        submitAll(x, 0, 0, 1, 2);
        submitAll(x, 1, 0, 3);
        x.tick();
        x.fault(0, 1, LOSE, 1);
        ticks(x, 3);
        x.fault(0, 0, DAMAGE, 2);
        ticks(x, 3);
        int[] before = new int[13];
        for (int what = 0; what <= HEARD; what++) {
            before[what] = x.of(0, 0, what);
        }
        due("FORE, BACK, FORE BIT and BUCKET are not as at first",
            before[FORE] * 1000 + before[BACK] * 100 + before[FORE_BIT] * 10 + before[BUCKET], 1002);
        x.stop(0, 0);
        for (int later = 0; later < 3; later++) {
            for (int what = ERRORS; what <= HEARD; what++) {
                if (what != SENT && what != QUEUED) {
                    due("of " + what, x.of(0, 0, what), before[what]);
                }
            }
            x.tick();
        }
        ThreeLinkPair y = new ThreeLinkPair();
        startBoth(y, 0);
        ticks(y, 2);
        y.fault(0, 0, DAMAGE, 3);
        ticks(y, 3);
        y.stop(0, 0);
        ticks(y, 3);
        shows(y, 0, 0, 0, 1, 1);
    }

    private static void fallLeavesNothingSentOrQueued() {
        part = "TO FALL: nothing is sent and queued any more";
        ThreeLinkPair x = serving(0);
        submitAll(x, 0, 0, 1, 2, 3, 4, 5, 6);
        ticks(x, 2);
        due("sent and queued before", x.of(0, 0, SENT) * 10 + x.of(0, 0, QUEUED), 24);
        x.stop(0, 0);
        due("sent", x.of(0, 0, SENT), 0);
        due("queued", x.of(0, 0, QUEUED), 0);
    }

    private static void fallWhenNotServing() {
        part = "TO FALL: when it was not SERVING no changeover begins";
        int[] states = {SEEKING, PROVING, READY};
        int[] waits = {1, 4, 7};
        for (int i = 0; i < states.length; i++) {
            ThreeLinkPair x = new ThreeLinkPair();
            startBoth(x, 2);
            ticks(x, waits[i]);
            bothAre(x, 2, states[i]);
            x.stop(2, 0);
            due("changes after state " + states[i], x.changes(2, 0), 0);
            no("so nothing is held", x.submit(0, 2, 1));
        }
    }

    private static void fallWhenServing() {
        part = "TO FALL: when it was SERVING a changeover of this link begins at its end";
        ThreeLinkPair x = serving(0, 1, 2);
        x.stop(1, 1);
        for (int link = 0; link < 3; link++) {
            due("changes at end 1", x.changes(link, 1), link == 1 ? 1 : 0);
            due("changes at end 0", x.changes(link, 0), 0);
        }
    }

    /**
     * End 1 takes a message in turn 1 of end 0, without an answer, and falls; in a later turn of
     * end 0 link 0 comes to be READY or SERVING and falls once more. Only then the order about
     * turn 1 comes to end 1, by link 1.
     */
    private static int cameTwice(int laterTurn, int laterState) {
        ThreeLinkPair x = new ThreeLinkPair();
        serveUnheard(x);
        submitAll(x, 0, 0, 1);
        ticks(x, 2);
        due("it came", x.inbox(1), 1);
        stopBoth(x, 0);
        for (int turn = 2; turn < laterTurn; turn++) {
            x.start(0, 0);
            x.stop(0, 0);
        }
        startBoth(x, 0);
        due("turn", x.of(0, 0, TURN), laterTurn);
        ticks(x, laterState == READY ? 0 : 1);
        startBoth(x, 1);
        ticks(x, 7);
        due("heard", x.of(0, 1, HEARD), laterTurn);
        bothAre(x, 0, laterState);
        stopBoth(x, 0);
        ticks(x, 1);
        bothAre(x, 1, SERVING);
        due("not settled", x.changes(0, 0), 1);
        ticks(x, 2);
        due("settled by the answer, and ended", x.changes(0, 0), 0);
        ticks(x, 6);
        due("lost", x.lost(), 0);
        return x.inbox(1) - 1;
    }

    private static void fallWhenReadyIsNotRemembered() {
        part = "TO FALL: when it was SERVING, its BACK is REMEMBERED";
        due("a side that was READY in turn 17 remembers turn 1: came twice", cameTwice(17, READY), 0);
    }

    private static void fallIsRememberedInPlaceOfSixteenLess() {
        part = "TO FALL: REMEMBERED in place of what is remembered for a turn that is 16, 32, .. less";
        int[] turns = {2, 3, 9, 15, 16, 17, 18, 25, 32, 33, 34, 48, 49, 50};
        for (int turn : turns) {
            due("came twice after turn " + turn, cameTwice(turn, SERVING), turn % 16 == 1 ? 1 : 0);
        }
    }

    /**
     * As cameTwice, but in the later turn end 1 takes a message too (the order about turn 1, its
     * answer is lost): so it has the same BACK in both turns, and an order more asks for turn 1.
     */
    private static int cameTwiceWithTheSameBack(int laterTurn) {
        ThreeLinkPair x = new ThreeLinkPair();
        serveUnheard(x);
        submitAll(x, 0, 0, 1);
        ticks(x, 2);
        due("BACK in turn 1", x.of(0, 1, BACK), 0);
        stopBoth(x, 0);
        for (int turn = 2; turn < laterTurn; turn++) {
            x.start(0, 0);
            x.stop(0, 0);
        }
        startBoth(x, 0);
        ticks(x, 2);
        startBoth(x, 1);
        ticks(x, 6);
        bothAre(x, 0, SERVING);
        x.fault(0, 0, LOSE, 99);
        ticks(x, 1);
        due("BACK in the later turn", x.of(0, 1, BACK), 0);
        due("heard", x.of(0, 1, HEARD), laterTurn);
        stopBoth(x, 0);
        ticks(x, 2);
        bothAre(x, 1, SERVING);
        due("not settled", x.changes(0, 0), 1);
        ticks(x, 1);
        due("settled by the answer, and ended", x.changes(0, 0), 0);
        ticks(x, 6);
        due("lost", x.lost(), 0);
        return x.inbox(1) - 1;
    }

    private static void fallIsRememberedForItsTurnAlone() {
        part = "TO FALL: its BACK is REMEMBERED for the turn that it heard, for no other one";
        due("came twice after turn 16", cameTwiceWithTheSameBack(16), 0);
        due("came twice after turn 17", cameTwiceWithTheSameBack(17), 1);
        due("came twice after turn 18", cameTwiceWithTheSameBack(18), 0);
        due("came twice after turn 33", cameTwiceWithTheSameBack(33), 1);
    }

    // A STATUS COMES

    private static void aStatusComes() {
        seekComesWhenOut();
        seekComesWhenSeeking();
        seekComesWhenProving();
        seekComesWhenReady();
        seekComesWhenServing();
        seekIsHeardAtLast();
        proveComesWhenOut();
        proveComesWhenSeeking();
        proveComesWhenProving();
        proveComesWhenReady();
        outComesWhenOut();
        outComesWhenSeeking();
        outComesWhenProving();
        outComesWhenReady();
        outComesWhenServing();
        outIsNotHeard();
    }

    private static void seekComesWhenOut() {
        part = "SEEK comes: otherwise nothing happens (OUT)";
        ThreeLinkPair x = new ThreeLinkPair();
        x.start(0, 0);
        ticks(x, 2);
        due("state", x.state(0, 1), OUT);
        shows(x, 0, 1, 0, 0, 0, 0, 0, 7, 7, 1, 1, 0, 0, 0, 1);
        due("it says nothing", x.tick(), 1);
    }

    private static void seekComesWhenSeeking() {
        part = "SEEK comes: when SEEKING, it is PROVING";
        ThreeLinkPair x = new ThreeLinkPair();
        x.start(0, 0);
        x.tick();
        x.start(0, 1);
        x.tick();
        due("state", x.state(0, 1), PROVING);
        due("the other side got nothing", x.state(0, 0), SEEKING);
    }

    private static void seekComesWhenProving() {
        part = "SEEK comes: when PROVING, age and errors are 0";
        ThreeLinkPair x = new ThreeLinkPair();
        startBoth(x, 0);
        ticks(x, 2);
        x.fault(0, 1, DAMAGE, 3);
        ticks(x, 4);
        shows(x, 0, 1, 3, 1, 1);
        x.stop(0, 0);
        x.start(0, 0);
        x.fault(0, 0, LOSE, 1);
        ticks(x, 1);
        shows(x, 0, 1, 4, 1, 1);
        ticks(x, 1);
        due("state", x.state(0, 1), PROVING);
        shows(x, 0, 1, 1, 0, 1);
        due("heard", x.of(0, 1, HEARD), 2);
    }

    private static void seekComesWhenReady() {
        part = "SEEK comes: when READY, it falls";
        ThreeLinkPair x = new ThreeLinkPair();
        startBoth(x, 0);
        ticks(x, 7);
        x.stop(0, 0);
        x.start(0, 0);
        x.fault(0, 1, LOSE, 1);
        ticks(x, 1);
        due("state", x.state(0, 1), READY);
        ticks(x, 1);
        due("state", x.state(0, 1), OUT);
        due("changes", x.changes(0, 1), 0);
        due("heard", x.of(0, 1, HEARD), 2);
    }

    private static void seekComesWhenServing() {
        part = "SEEK comes: when SERVING, it falls";
        ThreeLinkPair x = serving(0);
        x.stop(0, 0);
        x.start(0, 0);
        ticks(x, 1);
        due("state", x.state(0, 1), SERVING);
        ticks(x, 1);
        due("state", x.state(0, 1), OUT);
        due("changes", x.changes(0, 1), 1);
    }

    private static void seekIsHeardAtLast() {
        part = "SEEK comes: at last the turn is what it heard";
        ThreeLinkPair x = serving(1);
        serveUnheard(x);
        x.fault(0, 0, LOSE, 99);
        submitAll(x, 0, 0, 1, 2);
        ticks(x, 3);
        due("both came, without an answer", x.inbox(1) * 10 + x.of(0, 0, SENT), 22);
        x.stop(0, 0);
        x.start(0, 0);
        ticks(x, 2);
        due("it fell by SEEK", x.state(0, 1), OUT);
        due("then it heard", x.of(0, 1, HEARD), 2);
        due("its changeover had heard of turn 1: settled by the order, and ended", x.changes(0, 1), 0);
        ticks(x, 8);
        due("changes", x.changes(0, 0), 0);
        due("its BACK was remembered for turn 1, so none came twice", x.inbox(1), 2);
    }

    /** End 1 was started, but the other side's SEEKs did not come to it; end 0 sends PROVE. */
    private static ThreeLinkPair deafWhileProved() {
        ThreeLinkPair x = new ThreeLinkPair();
        startBoth(x, 0);
        x.fault(0, 1, LOSE, 2);
        ticks(x, 3);
        due("end 0", x.state(0, 0), PROVING);
        due("end 1", x.state(0, 1), SEEKING);
        due("heard", x.of(0, 1, HEARD), 0);
        return x;
    }

    private static void proveComesWhenOut() {
        part = "PROVE comes: otherwise nothing happens (OUT)";
        ThreeLinkPair x = deafWhileProved();
        x.stop(0, 1);
        x.tick();
        due("state", x.state(0, 1), OUT);
        due("heard", x.of(0, 1, HEARD), 1);
    }

    private static void proveComesWhenSeeking() {
        part = "PROVE comes: when SEEKING, it is PROVING";
        ThreeLinkPair x = deafWhileProved();
        x.tick();
        due("state", x.state(0, 1), PROVING);
        due("age, which grew once", x.of(0, 1, AGE), 1);
        due("heard", x.of(0, 1, HEARD), 1);
    }

    private static void proveComesWhenProving() {
        part = "PROVE comes: otherwise nothing happens (PROVING)";
        ThreeLinkPair x = new ThreeLinkPair();
        startBoth(x, 0);
        ticks(x, 2);
        x.fault(0, 0, DAMAGE, 1);
        ticks(x, 1);
        shows(x, 0, 0, 2, 1, 0);
        ticks(x, 3);
        shows(x, 0, 0, 5, 1, 0);
        due("state", x.state(0, 0), PROVING);
        ticks(x, 1);
        due("state", x.state(0, 0), READY);
    }

    private static void proveComesWhenReady() {
        part = "PROVE comes: otherwise nothing happens (READY)";
        ThreeLinkPair x = new ThreeLinkPair();
        startBoth(x, 0);
        ticks(x, 4);
        x.fault(0, 0, DAMAGE, 2);
        ticks(x, 3);
        due("end 0", x.state(0, 0), PROVING);
        for (int age = 0; age <= 3; age++) {
            due("end 1", x.state(0, 1), READY);
            due("age", x.of(0, 1, AGE), age);
            due("PROVE and a fill came", x.tick(), 2);
        }
    }

    private static void outComesWhenOut() {
        part = "OUT comes: otherwise nothing happens (OUT)";
        ThreeLinkPair x = new ThreeLinkPair();
        x.start(0, 0);
        x.stop(0, 0);
        x.tick();
        due("OUT comes", x.tick(), 1);
        due("state", x.state(0, 1), OUT);
        due("it does not say OUT", x.tick(), 0);
    }

    private static void outComesWhenSeeking() {
        part = "OUT comes: otherwise nothing happens (SEEKING)";
        ThreeLinkPair x = new ThreeLinkPair();
        x.start(0, 0);
        x.stop(0, 0);
        x.start(0, 1);
        ticks(x, 1);
        due("OUT and SEEK come", x.tick(), 2);
        due("state", x.state(0, 1), SEEKING);
        due("age", x.of(0, 1, AGE), 2);
    }

    private static void outComesWhenProving() {
        part = "OUT comes: when PROVING, it falls";
        ThreeLinkPair x = new ThreeLinkPair();
        startBoth(x, 0);
        ticks(x, 3);
        x.stop(0, 0);
        ticks(x, 1);
        due("state", x.state(0, 1), PROVING);
        ticks(x, 1);
        due("state", x.state(0, 1), OUT);
    }

    private static void outComesWhenReady() {
        part = "OUT comes: when READY, it falls";
        ThreeLinkPair x = new ThreeLinkPair();
        startBoth(x, 0);
        ticks(x, 7);
        x.fault(0, 1, LOSE, 1);
        x.stop(0, 0);
        ticks(x, 1);
        due("state", x.state(0, 1), READY);
        ticks(x, 1);
        due("state", x.state(0, 1), OUT);
        due("changes", x.changes(0, 1), 0);
    }

    private static void outComesWhenServing() {
        part = "OUT comes: when SERVING, it falls";
        ThreeLinkPair x = serving(0);
        x.stop(0, 0);
        ticks(x, 1);
        due("state", x.state(0, 1), SERVING);
        ticks(x, 1);
        due("state", x.state(0, 1), OUT);
        due("changes", x.changes(0, 1), 1);
    }

    private static void outIsNotHeard() {
        part = "A STATUS COMES: of SEEK and PROVE the turn is what it heard, not of OUT";
        ThreeLinkPair x = new ThreeLinkPair();
        x.start(0, 0);
        ticks(x, 2);
        due("heard of SEEK", x.of(0, 1, HEARD), 1);
        x.stop(0, 0);
        x.start(0, 0);
        x.stop(0, 0);
        x.tick();
        due("OUT comes", x.tick(), 1);
        due("heard as before", x.of(0, 1, HEARD), 1);
    }

    // A FILL OR MESSAGE COMES

    private static void aFillOrMessageComes() {
        fillComesWhenOutOrSeeking();
        fillComesWhenProving();
        fillComesWhenReady();
        messageComesWhenReady();
        goodAtEight();
        goodAtEightWithoutBucket();
        answersToNone();
        answersToSome();
        answersRoundTheNumbers();
        dueAgainStayDue();
        idleIsZeroByAnAnswer();
        backBitMakesAllDueAgain();
        oldForeBitIsPassedOver();
        fillWithTheSameFore();
        fillWithTheNextFore();
        messageWithTheNextFore();
        messageWithAFartherFore();
        foresGoRound();
    }

    private static void fillComesWhenOutOrSeeking() {
        part = "A FILL COMES to an OUT or a SEEKING side: nothing is done";
        ThreeLinkPair x = serving(0);
        x.stop(0, 1);
        due("fills come", x.tick(), 2);
        due("state", x.state(0, 1), OUT);
        ThreeLinkPair y = serving(0);
        y.stop(0, 1);
        y.start(0, 1);
        due("fills come", y.tick(), 2);
        due("state", y.state(0, 1), SEEKING);
        shows(y, 0, 1, 1, 0, 0, 0, 0, 7, 7, 1, 1, 0, 0, 2, 1);
    }

    private static void fillComesWhenProving() {
        part = "A FILL COMES to a PROVING side: nothing is done, GOOD does not grow";
        ThreeLinkPair x = new ThreeLinkPair();
        startBoth(x, 0);
        ticks(x, 4);
        x.fault(0, 0, DAMAGE, 2);
        ticks(x, 3);
        due("end 1 sends fills", x.state(0, 1), READY);
        ticks(x, 3);
        due("end 0", x.state(0, 0), PROVING);
        ticks(x, 2);
        due("end 0", x.state(0, 0), SERVING);
        x.fault(0, 0, DAMAGE, 1);
        ticks(x, 7);
        due("six more good ones than that by which it serves", x.of(0, 0, BUCKET), 1);
        ticks(x, 1);
        due("the seventh", x.of(0, 0, BUCKET), 0);
    }

    private static void fillComesWhenReady() {
        part = "A FILL COMES: when READY, it is SERVING";
        ThreeLinkPair x = new ThreeLinkPair();
        startBoth(x, 0);
        ticks(x, 7);
        x.fault(0, 0, LOSE, 1);
        x.fault(0, 1, DAMAGE, 1);
        ticks(x, 1);
        bothAre(x, 0, READY);
        ticks(x, 1);
        bothAre(x, 0, SERVING);
        due("nothing was taken", x.inbox(0) + x.inbox(1), 0);
        due("BACK", x.of(0, 0, BACK), 7);
    }

    private static void messageComesWhenReady() {
        part = "A MESSAGE COMES: when READY, it is SERVING, and the message is taken";
        ThreeLinkPair x = new ThreeLinkPair();
        startBoth(x, 0);
        ticks(x, 7);
        x.fault(0, 1, LOSE, 2);
        ticks(x, 1);
        submitAll(x, 0, 0, 5);
        ticks(x, 1);
        due("end 1", x.state(0, 1), READY);
        ticks(x, 1);
        due("end 1", x.state(0, 1), SERVING);
        due("BACK", x.of(0, 1, BACK), 0);
        takeAll(x, 1, 5);
    }

    private static void goodAtEight() {
        part = "GOOD at 8 is 0 and BUCKET is less by 1";
        ThreeLinkPair x = serving(0);
        x.fault(0, 1, DAMAGE, 3);
        ticks(x, 3);
        ticks(x, 6);
        due("GOOD is 7", x.of(0, 1, BUCKET), 3);
        ticks(x, 1);
        due("GOOD was 8", x.of(0, 1, BUCKET), 2);
        ticks(x, 7);
        due("GOOD is 7 again", x.of(0, 1, BUCKET), 2);
        ticks(x, 1);
        due("GOOD was 8 again", x.of(0, 1, BUCKET), 1);
        ticks(x, 3);
        x.fault(0, 1, DAMAGE, 1);
        ticks(x, 5);
        due("a damaged one between leaves GOOD: 7", x.of(0, 1, BUCKET), 2);
        ticks(x, 1);
        due("GOOD was 8", x.of(0, 1, BUCKET), 1);
    }

    private static void goodAtEightWithoutBucket() {
        part = "GOOD at 8: BUCKET is less by 1, if it is not 0";
        ThreeLinkPair x = serving(0);
        ticks(x, 6);
        due("GOOD is 7", x.of(0, 0, BUCKET), 0);
        ticks(x, 1);
        due("GOOD was 8", x.of(0, 0, BUCKET), 0);
        x.fault(0, 0, DAMAGE, 1);
        ticks(x, 8);
        due("GOOD began at 0: it is 7", x.of(0, 0, BUCKET), 1);
        ticks(x, 1);
        due("GOOD was 8", x.of(0, 0, BUCKET), 0);
    }

    private static void answersToNone() {
        part = "BACK is the one before the first that is sent: none of them is answered";
        ThreeLinkPair x = serving(0);
        submitAll(x, 0, 0, 1, 2);
        x.fault(0, 1, LOSE, 99);
        ticks(x, 3);
        due("a fill came to end 0, none to end 1", x.tick(), 1);
        due("sent", x.of(0, 0, SENT), 2);
        due("state", x.state(0, 0), SERVING);
        ThreeLinkPair y = serving(0);
        ticks(y, 5);
        due("none is sent, BACK is its own FORE", y.state(0, 0), SERVING);
    }

    /** Five messages are sent of which end 1 takes the first ones; the answer to these comes at once. */
    private static void answersTo(ThreeLinkPair x, int come, int left) {
        submitAll(x, 0, 0, 11, 12, 13, 14, 15);
        ticks(x, 1);
        x.fault(0, 0, LOSE, 99);
        ticks(x, come);
        x.fault(0, 1, LOSE, 99);
        ticks(x, 5 - come);
        due("five are sent", x.of(0, 0, SENT), 5);
        x.fault(0, 0, 0, 0);
        ticks(x, 1);
        due("sent after an answer to " + come, x.of(0, 0, SENT), left);
    }

    private static void answersToSome() {
        part = "those that are sent up to BACK are sent no more";
        for (int come = 0; come <= 5; come++) {
            ThreeLinkPair x = serving(0);
            answersTo(x, come, 5 - come);
            due("FORE", x.of(0, 0, FORE), 4);
        }
    }

    private static void answersRoundTheNumbers() {
        part = "those that are sent up to BACK are sent no more, numbers being modulo 8";
        for (int before = 1; before <= 8; before++) {
            for (int come = 0; come <= 5; come++) {
                ThreeLinkPair x = serving(0);
                for (int i = 0; i < before; i++) {
                    submitAll(x, 0, 0, i);
                    ticks(x, 1);
                }
                ticks(x, 3);
                due("none is sent", x.of(0, 0, SENT), 0);
                answersTo(x, come, 5 - come);
                due("FORE", x.of(0, 0, FORE), (before + 4) % 8);
                due("state", x.state(0, 0), SERVING);
            }
        }
    }

    private static void dueAgainStayDue() {
        part = "of the others those that are due again stay so";
        ThreeLinkPair x = serving(0);
        submitAll(x, 0, 0, 1, 2, 3, 4, 5);
        ticks(x, 1);
        x.fault(0, 1, LOSE, 1);
        ticks(x, 3);
        due("0, 1 and 2 were due again, 0 is sent now", x.of(0, 0, FORE), 2);
        ticks(x, 1);
        due("0 came", x.inbox(1), 1);
        ticks(x, 1);
        due("0 was answered and 2 is still due before 3", x.of(0, 0, FORE), 2);
        due("1 came", x.inbox(1), 2);
        ticks(x, 1);
        due("2 came", x.inbox(1), 3);
        due("then 3 is sent", x.of(0, 0, FORE), 3);
        ticks(x, 1);
        due("3 came: nothing was sent more often", x.inbox(1), 4);
        due("nothing was missing any more", x.of(0, 1, BACK_BIT), 0);
        ticks(x, 1);
        takeAll(x, 1, 1, 2, 3, 4, 5);
    }

    private static void idleIsZeroByAnAnswer() {
        part = "IDLE is 0 if these are one at least";
        ThreeLinkPair x = serving(0);
        submitAll(x, 0, 0, 1, 2);
        x.fault(0, 0, LOSE, 6);
        ticks(x, 6);
        due("IDLE", x.of(0, 0, IDLE), 5);
        submitAll(x, 0, 0, 3);
        x.fault(0, 1, LOSE, 9);
        ticks(x, 1);
        due("two were answered, none is sent when it ages", x.of(0, 0, IDLE), 0);
        due("sent now", x.of(0, 0, SENT), 1);
        ticks(x, 4);
        due("fills that answer none leave it", x.of(0, 0, IDLE), 4);
        ThreeLinkPair y = serving(0);
        submitAll(y, 0, 0, 1, 2, 3);
        y.fault(0, 0, LOSE, 2);
        ticks(y, 2);
        due("IDLE", y.of(0, 0, IDLE), 1);
        ticks(y, 1);
        due("one of two was answered, then it aged", y.of(0, 0, IDLE), 1);
    }

    private static void backBitMakesAllDueAgain() {
        part = "BACK BIT is not its own FORE BIT: that becomes it, all that are sent are due AGAIN, "
            + "from the first one on";
        ThreeLinkPair x = serving(0);
        submitAll(x, 0, 0, 1, 2, 3, 4, 5, 6);
        x.fault(0, 0, LOSE, 7);
        ticks(x, 1);
        x.fault(0, 1, LOSE, 1);
        ticks(x, 6);
        due("five are sent", x.of(0, 0, SENT), 5);
        due("end 1 asks for them", x.of(0, 1, BACK_BIT), 0);
        due("end 0 did not hear that", x.of(0, 0, FORE_BIT), 1);
        ticks(x, 1);
        due("now it did", x.of(0, 0, FORE_BIT), 0);
        for (int come = 1; come <= 5; come++) {
            ticks(x, 1);
            due("came", x.inbox(1), come);
        }
        ticks(x, 1);
        takeAll(x, 1, 1, 2, 3, 4, 5, 6);
        due("FORE BIT stays", x.of(0, 0, FORE_BIT), 0);
    }

    private static void oldForeBitIsPassedOver() {
        part = "when the unit's FORE BIT is its own BACK BIT: not when it is not";
        ThreeLinkPair x = serving(0);
        submitAll(x, 0, 0, 1, 2, 3, 4, 5);
        x.fault(0, 0, LOSE, 8);
        ticks(x, 1);
        x.fault(0, 1, LOSE, 1);
        ticks(x, 2);
        due("1 came without 0", x.of(0, 1, BACK_BIT), 0);
        for (int i = 0; i < 5; i++) {
            ticks(x, 1);
            due("2, 3, 4 and fills with the old bit change nothing", x.of(0, 1, BACK_BIT), 0);
            due("BACK", x.of(0, 1, BACK), 7);
        }
        due("nothing was taken", x.inbox(1), 0);
    }

    private static void fillWithTheSameFore() {
        part = "otherwise, if the unit's FORE is not its own BACK: a fill whose FORE is its BACK";
        ThreeLinkPair x = serving(0);
        ticks(x, 3);
        due("BACK BIT at first", x.of(0, 1, BACK_BIT), 1);
        submitAll(x, 0, 0, 1);
        ticks(x, 6);
        due("BACK", x.of(0, 1, BACK), 0);
        due("BACK BIT", x.of(0, 1, BACK_BIT), 1);
    }

    private static void fillWithTheNextFore() {
        part = "if it is a message with FORE one more than its own BACK: a fill with that FORE is none";
        ThreeLinkPair x = serving(0);
        submitAll(x, 0, 0, 1);
        ticks(x, 1);
        x.fault(0, 1, LOSE, 1);
        ticks(x, 2);
        due("BACK", x.of(0, 1, BACK), 7);
        due("BACK BIT becomes the other one", x.of(0, 1, BACK_BIT), 0);
        due("nothing was taken", x.inbox(1), 0);
        ticks(x, 2);
        due("it came again", x.inbox(1), 1);
        ticks(x, 3);
        due("the fills behind it change nothing", x.of(0, 1, BACK_BIT), 0);
        submitAll(x, 0, 0, 2);
        ticks(x, 1);
        x.fault(0, 1, LOSE, 1);
        ticks(x, 2);
        due("BACK BIT becomes 1 again", x.of(0, 1, BACK_BIT), 1);
        ticks(x, 2);
        takeAll(x, 1, 1, 2);
    }

    private static void messageWithTheNextFore() {
        part = "a message with FORE one more than its own BACK: its BACK becomes that, it is TAKEN";
        ThreeLinkPair x = serving(0);
        submitAll(x, 0, 0, 1, 2);
        ticks(x, 2);
        due("BACK", x.of(0, 1, BACK), 0);
        due("inbox", x.inbox(1), 1);
        ticks(x, 1);
        due("BACK", x.of(0, 1, BACK), 1);
        due("BACK BIT", x.of(0, 1, BACK_BIT), 1);
        takeAll(x, 1, 1, 2);
    }

    private static void messageWithAFartherFore() {
        part = "a message with a FORE farther than that is not taken, BACK BIT becomes the other one";
        for (int missing = 1; missing <= 4; missing++) {
            ThreeLinkPair x = serving(0);
            submitAll(x, 0, 0, 1, 2, 3, 4, 5);
            ticks(x, 1);
            x.fault(0, 1, LOSE, missing);
            ticks(x, missing);
            due("BACK BIT", x.of(0, 1, BACK_BIT), 1);
            ticks(x, 1);
            due("BACK BIT when " + missing + " are missing", x.of(0, 1, BACK_BIT), 0);
            due("BACK", x.of(0, 1, BACK), 7);
            due("nothing was taken", x.inbox(1), 0);
            ticks(x, 6);
            takeAll(x, 1, 1, 2, 3, 4, 5);
        }
    }

    private static void foresGoRound() {
        part = "FORE one more than its own BACK (modulo 8)";
        ThreeLinkPair x = serving(0);
        for (int i = 0; i < 20; i++) {
            submitAll(x, 0, 0, i);
            ticks(x, 2);
            due("FORE", x.of(0, 0, FORE), i % 8);
            due("BACK", x.of(0, 1, BACK), i % 8);
            due("taken", x.take(1), i);
        }
        ThreeLinkPair y = serving(0);
        for (int i = 0; i < 7; i++) {
            submitAll(y, 0, 0, i);
            ticks(y, 1);
        }
        submitAll(y, 0, 0, 7, 8);
        ticks(y, 1);
        y.fault(0, 1, LOSE, 1);
        ticks(y, 2);
        due("0 came without 7", y.of(0, 1, BACK_BIT), 0);
        due("BACK", y.of(0, 1, BACK), 6);
        ticks(y, 3);
        due("7 and 0 came again", y.of(0, 1, BACK), 0);
        takeAll(y, 1, 0, 1, 2, 3, 4, 5, 6, 7, 8);
    }

    // A UNIT COMES DAMAGED

    private static void aUnitComesDamaged() {
        damagedWhenOutOrSeeking();
        damagedWhenReady();
        damagedWhenProving();
        triesAtThree();
        damagedWhenServing();
    }

    private static void damagedWhenOutOrSeeking() {
        part = "A UNIT COMES DAMAGED to an OUT or a SEEKING side";
        ThreeLinkPair x = new ThreeLinkPair();
        x.start(0, 0);
        x.fault(0, 1, DAMAGE, 99);
        ticks(x, 6);
        shows(x, 0, 1, 0, 0, 0, 0, 0, 7, 7, 1, 1, 0, 0, 0, 0);
        due("state", x.state(0, 1), OUT);
        x.start(0, 1);
        ticks(x, 6);
        due("state", x.state(0, 1), SEEKING);
        shows(x, 0, 1, 6, 0, 0, 0, 0, 7, 7, 1, 1, 0, 0, 1, 0);
    }

    private static void damagedWhenReady() {
        part = "A UNIT COMES DAMAGED to a READY side";
        ThreeLinkPair x = new ThreeLinkPair();
        startBoth(x, 0);
        ticks(x, 7);
        x.fault(0, 0, DAMAGE, 8);
        ticks(x, 8);
        due("state", x.state(0, 0), READY);
        shows(x, 0, 0, 8, 0, 0, 0);
        ticks(x, 1);
        due("state", x.state(0, 0), SERVING);
        shows(x, 0, 0, 0, 0, 0, 0);
    }

    private static void damagedWhenProving() {
        part = "DAMAGED when PROVING: ERRORS grows by 1; at 2 age and errors are 0 and TRIES grows by 1";
        ThreeLinkPair x = new ThreeLinkPair();
        startBoth(x, 0);
        ticks(x, 4);
        x.fault(0, 0, DAMAGE, 1);
        ticks(x, 1);
        shows(x, 0, 0, 4, 1, 0, 0);
        ticks(x, 1);
        shows(x, 0, 0, 5, 1, 0, 0);
        x.fault(0, 0, DAMAGE, 1);
        ticks(x, 1);
        due("state", x.state(0, 0), PROVING);
        shows(x, 0, 0, 1, 0, 1, 0);
        ticks(x, 4);
        due("state", x.state(0, 0), PROVING);
        shows(x, 0, 0, 5, 0, 1, 0);
        ticks(x, 1);
        due("state", x.state(0, 0), READY);
        shows(x, 0, 0, 0, 0, 1, 0);
    }

    private static void triesAtThree() {
        part = "DAMAGED when PROVING: at 3 tries it falls";
        ThreeLinkPair x = new ThreeLinkPair();
        startBoth(x, 0);
        ticks(x, 2);
        x.fault(0, 0, DAMAGE, 5);
        ticks(x, 5);
        due("state", x.state(0, 0), PROVING);
        shows(x, 0, 0, 2, 1, 2);
        x.fault(0, 0, DAMAGE, 1);
        ticks(x, 1);
        due("state", x.state(0, 0), OUT);
        shows(x, 0, 0, 0, 0, 3);
        due("changes", x.changes(0, 0), 0);
        ThreeLinkPair y = new ThreeLinkPair();
        startBoth(y, 0);
        ticks(y, 2);
        y.fault(0, 0, DAMAGE, 5);
        ticks(y, 9);
        due("with 2 tries and 1 error it is READY", y.state(0, 0), READY);
        shows(y, 0, 0, 0, 1, 2);
    }

    private static void damagedWhenServing() {
        part = "DAMAGED when SERVING: BUCKET grows by 1, at 4 it falls";
        ThreeLinkPair x = serving(0);
        x.fault(0, 0, DAMAGE, 4);
        for (int bucket = 1; bucket <= 3; bucket++) {
            ticks(x, 1);
            shows(x, 0, 0, 0, 0, 0, bucket);
            due("state", x.state(0, 0), SERVING);
        }
        ticks(x, 1);
        shows(x, 0, 0, 0, 0, 0, 4);
        due("state", x.state(0, 0), OUT);
        due("changes", x.changes(0, 0), 1);
        due("the other side", x.state(0, 1), SERVING);
    }

    // IT AGES

    private static void itAges() {
        seekingAtFifteen();
        readyAtFifteen();
        provingAtSix();
        servingAtTwelve();
        idleWhenNoneIsSent();
        outDoesNotAge();
    }

    private static void seekingAtFifteen() {
        part = "IT AGES: SEEKING: age grows by 1, at 15 it falls";
        ThreeLinkPair x = new ThreeLinkPair();
        x.start(0, 0);
        for (int age = 1; age <= 14; age++) {
            ticks(x, 1);
            due("age", x.of(0, 0, AGE), age);
            due("state", x.state(0, 0), SEEKING);
        }
        ticks(x, 1);
        due("state", x.state(0, 0), OUT);
        due("age", x.of(0, 0, AGE), 0);
    }

    private static void readyAtFifteen() {
        part = "IT AGES: READY: age grows by 1, at 15 it falls";
        ThreeLinkPair x = new ThreeLinkPair();
        startBoth(x, 0);
        ticks(x, 7);
        x.fault(0, 1, LOSE, 99);
        for (int age = 1; age <= 14; age++) {
            ticks(x, 1);
            due("age", x.of(0, 1, AGE), age);
            due("state", x.state(0, 1), READY);
        }
        ticks(x, 1);
        due("state", x.state(0, 1), OUT);
        due("age", x.of(0, 1, AGE), 0);
        ThreeLinkPair y = new ThreeLinkPair();
        startBoth(y, 0);
        ticks(y, 7);
        y.fault(0, 1, LOSE, 14);
        ticks(y, 15);
        due("a fill at the last moment", y.state(0, 1), SERVING);
    }

    private static void provingAtSix() {
        part = "IT AGES: PROVING: age grows by 1, at 6 it is READY";
        ThreeLinkPair x = new ThreeLinkPair();
        startBoth(x, 0);
        ticks(x, 1);
        for (int age = 1; age <= 5; age++) {
            ticks(x, 1);
            due("age", x.of(0, 0, AGE), age);
            bothAre(x, 0, PROVING);
        }
        ticks(x, 1);
        bothAre(x, 0, READY);
        due("age", x.of(0, 0, AGE), 0);
        ThreeLinkPair y = new ThreeLinkPair();
        startBoth(y, 0);
        ticks(y, 2);
        y.fault(0, 0, LOSE, 99);
        ticks(y, 5);
        due("though nothing comes", y.state(0, 0), READY);
    }

    private static void servingAtTwelve() {
        part = "IT AGES: SERVING: when one is sent, IDLE grows by 1, at 12 it falls";
        ThreeLinkPair x = serving(0);
        submitAll(x, 1, 0, 1);
        x.fault(0, 0, LOSE, 99);
        ticks(x, 1);
        for (int idle = 1; idle <= 11; idle++) {
            ticks(x, 1);
            due("IDLE", x.of(0, 1, IDLE), idle);
            due("state", x.state(0, 1), SERVING);
        }
        ticks(x, 1);
        due("IDLE", x.of(0, 1, IDLE), 12);
        due("state", x.state(0, 1), OUT);
        due("changes", x.changes(0, 1), 1);
        ThreeLinkPair y = serving(0);
        submitAll(y, 1, 0, 1);
        y.fault(0, 1, LOSE, 12);
        ticks(y, 12);
        due("IDLE", y.of(0, 1, IDLE), 11);
        ticks(y, 1);
        due("an answer at the last moment", y.state(0, 1), SERVING);
        due("IDLE", y.of(0, 1, IDLE), 0);
    }

    private static void idleWhenNoneIsSent() {
        part = "IT AGES: SERVING: otherwise IDLE is 0";
        ThreeLinkPair x = serving(0);
        x.fault(0, 0, LOSE, 99);
        x.fault(0, 1, LOSE, 99);
        ticks(x, 30);
        bothAre(x, 0, SERVING);
        due("IDLE", x.of(0, 0, IDLE), 0);
        submitAll(x, 0, 0, 1);
        ticks(x, 1);
        due("it was queued, not sent, when it aged", x.of(0, 0, IDLE), 0);
        ticks(x, 1);
        due("IDLE", x.of(0, 0, IDLE), 1);
    }

    private static void outDoesNotAge() {
        part = "IT AGES: an OUT side does not";
        ThreeLinkPair x = new ThreeLinkPair();
        ticks(x, 40);
        bothAre(x, 0, OUT);
        shows(x, 0, 0, 0, 0, 0, 0, 0, 7, 7, 1, 1, 0, 0, 0, 0);
    }

    // IT SENDS

    private static void itSends() {
        readySendsFills();
        fewerThanFiveAreSent();
        noneIsQueued();
        dueAgainGoFirst();
        dueAgainThoughFiveAreSent();
        dueAgainHaveTheirOwnNumbers();
        foreIsModuloEight();
    }

    private static void readySendsFills() {
        part = "IT SENDS: READY a fill";
        ThreeLinkPair x = new ThreeLinkPair();
        startBoth(x, 0);
        ticks(x, 7);
        x.fault(0, 0, LOSE, 4);
        ticks(x, 4);
        due("end 0", x.state(0, 0), READY);
        due("its fills made end 1 serve", x.state(0, 1), SERVING);
        due("FORE of end 0", x.of(0, 0, FORE), 7);
        due("BACK of end 1", x.of(0, 1, BACK), 7);
        due("BACK BIT of end 1", x.of(0, 1, BACK_BIT), 1);
    }

    private static void fewerThanFiveAreSent() {
        part = "IT SENDS: when some are queued and fewer than 5 are sent, the first of these";
        ThreeLinkPair x = serving(0);
        submitAll(x, 0, 0, 1, 2, 3, 4, 5, 6);
        x.fault(0, 0, LOSE, 7);
        for (int sent = 1; sent <= 5; sent++) {
            ticks(x, 1);
            due("sent", x.of(0, 0, SENT), sent);
            due("queued", x.of(0, 0, QUEUED), 6 - sent);
            due("FORE", x.of(0, 0, FORE), sent - 1);
        }
        ticks(x, 2);
        due("sent", x.of(0, 0, SENT), 5);
        due("queued", x.of(0, 0, QUEUED), 1);
        due("FORE", x.of(0, 0, FORE), 4);
        due("five came, then a fill", x.inbox(1), 5);
        ticks(x, 1);
        due("all five were answered: sent", x.of(0, 0, SENT), 1);
        due("queued", x.of(0, 0, QUEUED), 0);
        due("FORE", x.of(0, 0, FORE), 5);
        ThreeLinkPair y = serving(0);
        submitAll(y, 0, 0, 1, 2, 3, 4, 5, 6);
        y.fault(0, 0, LOSE, 5);
        ticks(y, 2);
        y.fault(0, 1, LOSE, 99);
        ticks(y, 3);
        due("five are sent, one came", y.of(0, 0, SENT) * 10 + y.inbox(1), 51);
        ticks(y, 1);
        due("one was answered, the sixth is sent", y.of(0, 0, SENT) * 10 + y.of(0, 0, FORE), 55);
    }

    private static void noneIsQueued() {
        part = "IT SENDS: otherwise a fill, with its FORE";
        ThreeLinkPair x = serving(0);
        submitAll(x, 0, 0, 1);
        ticks(x, 5);
        due("FORE stays", x.of(0, 0, FORE), 0);
        due("sent", x.of(0, 0, SENT), 0);
        due("nothing more came", x.inbox(1), 1);
        due("BACK", x.of(0, 1, BACK), 0);
        due("nothing is missing", x.of(0, 1, BACK_BIT), 1);
    }

    private static void dueAgainGoFirst() {
        part = "IT SENDS: when some are due again, the next one of them; otherwise those queued";
        ThreeLinkPair x = serving(0);
        submitAll(x, 0, 0, 1, 2, 3, 4, 5, 6);
        ticks(x, 1);
        x.fault(0, 1, LOSE, 1);
        ticks(x, 2);
        due("three are sent", x.of(0, 0, SENT), 3);
        for (int again = 1; again <= 3; again++) {
            ticks(x, 1);
            due("queued while one is due again", x.of(0, 0, QUEUED), 3);
            due("FORE", x.of(0, 0, FORE), 2);
        }
        ticks(x, 1);
        due("then the first one of those queued", x.of(0, 0, QUEUED), 2);
        due("FORE", x.of(0, 0, FORE), 3);
        takeAll(x, 1, 1, 2, 3);
    }

    private static void dueAgainThoughFiveAreSent() {
        part = "IT SENDS: when some are due again, the next one of them, though 5 are sent";
        ThreeLinkPair x = serving(0);
        submitAll(x, 0, 0, 1, 2, 3, 4, 5);
        x.fault(0, 1, LOSE, 6);
        ticks(x, 7);
        due("only a fill came", x.of(0, 1, BACK_BIT), 0);
        due("sent", x.of(0, 0, SENT), 5);
        ticks(x, 1);
        x.fault(0, 0, LOSE, 99);
        for (int come = 1; come <= 4; come++) {
            ticks(x, 1);
            due("sent", x.of(0, 0, SENT), 5);
            due("came", x.inbox(1), come);
        }
        due("IDLE", x.of(0, 0, IDLE), 11);
    }

    private static void dueAgainHaveTheirOwnNumbers() {
        part = "IT SENDS: a message that is due again carries its own number";
        ThreeLinkPair x = serving(0);
        for (int i = 0; i < 6; i++) {
            submitAll(x, 0, 0, i);
            ticks(x, 1);
        }
        ticks(x, 2);
        submitAll(x, 0, 0, 6, 7, 8, 9);
        ticks(x, 1);
        x.fault(0, 1, LOSE, 1);
        ticks(x, 3);
        due("6, 7 and 0 are sent", x.of(0, 0, FORE), 0);
        int[] backs = {6, 7, 0, 1};
        for (int back : backs) {
            ticks(x, 1);
            due("BACK of end 1", x.of(0, 1, BACK), back);
        }
        takeAll(x, 1, 0, 1, 2, 3, 4, 5, 6, 7, 8, 9);
    }

    private static void foreIsModuloEight() {
        part = "IT SENDS: FORE being one more (modulo 8)";
        ThreeLinkPair x = serving(0);
        for (int i = 0; i < 18; i++) {
            submitAll(x, 1, 0, i);
            ticks(x, 1);
            due("FORE", x.of(0, 1, FORE), i % 8);
        }
        ticks(x, 1);
        due("BACK", x.of(0, 0, BACK), 1);
        due("inbox", x.inbox(0), 18);
    }
}
