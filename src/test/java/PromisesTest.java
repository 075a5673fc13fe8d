import java.util.NoSuchElementException;

/** Each promise of the document by hand-made runs: ordinary inputs, the edges, and wrong inputs. */
public final class PromisesTest extends Checks {
    public static void main(String[] args) {
        newObject();
        starting();
        startingAgain();
        stopping();
        stoppingSaysOutOnce();
        faults();
        faultsOnProving();
        faultsOnServing();
        submitting();
        submittingStaysOnItsLink();
        submittingIsHeld();
        tickCounts();
        alignment();
        ageing();
        statusUnits();
        provingOnes();
        numbersAndAnswers();
        sendingAgain();
        dueAgainFromTheFirst();
        idleFalls();
        states();
        ofSides();
        links();
        changesByAnswer();
        changesByOrder();
        changesSettledWithoutOpenLink();
        changesWaitForAServingLink();
        changeoverAgain();
        orderWithoutMemory();
        heldGoBehindKept();
        inboxes();
        taking();
        losing();
        ordersAreNotLost();
        finish("all promises hold");
    }

    private static void newObject() {
        part = "promise 1, a new object";
        due("NONE", ThreeLinkPair.NONE, -1);
        ThreeLinkPair x = new ThreeLinkPair();
        for (int end = 0; end < 2; end++) {
            for (int link = 0; link < 3; link++) {
                due("state", x.state(link, end), OUT);
                shows(x, link, end, 0, 0, 0, 0, 0, 7, 7, 1, 1, 0, 0, 0, 0);
                due("changes", x.changes(link, end), 0);
            }
            due("held", x.held(end), 0);
            due("inbox", x.inbox(end), 0);
        }
        due("lost", x.lost(), 0);
        due("the first tick", x.tick(), 0);
        due("the second tick: nobody said OUT", x.tick(), 0);
        due("state after ticks", x.state(0, 0), OUT);
    }

    private static void starting() {
        part = "promise 2, start";
        ThreeLinkPair x = new ThreeLinkPair();
        yes("start of an OUT side", x.start(1, 0));
        due("state", x.state(1, 0), SEEKING);
        due("the other side's state", x.state(1, 1), OUT);
        shows(x, 1, 0, 0, 0, 0, 0, 0, 7, 7, 1, 1, 0, 0, 1, 0);
        no("start of a SEEKING side", x.start(1, 0));
        due("its turn", x.of(1, 0, TURN), 1);
        noSuchIndex("link -1", () -> x.start(-1, 0));
        noSuchIndex("link 3", () -> x.start(3, 0));
        noSuchIndex("end -1", () -> x.start(0, -1));
        noSuchIndex("end 2", () -> x.start(0, 2));
        noSuchIndex("a far link", () -> x.start(Integer.MIN_VALUE, Integer.MAX_VALUE));
        x.start(1, 1);
        ticks(x, 2);
        no("start of a PROVING side", x.start(1, 0));
        ticks(x, 5);
        due("state", x.state(1, 0), READY);
        no("start of a READY side", x.start(1, 0));
        ticks(x, 1);
        no("start of a SERVING side", x.start(1, 0));
        due("its turn", x.of(1, 0, TURN), 1);
    }

    private static void startingAgain() {
        part = "promise 2, start again";
        ThreeLinkPair x = serving(0);
        submitAll(x, 0, 0, 1, 2);
        submitAll(x, 1, 0, 3);
        x.fault(0, 0, DAMAGE, 1);
        ticks(x, 1);
        due("FORE", x.of(0, 0, FORE), 0);
        ticks(x, 1);
        x.fault(0, 0, DAMAGE, 1);
        ticks(x, 1);
        yes("stop", x.stop(0, 0));
        shows(x, 0, 0, 0, 0, 0, 2, 2, 1, 0, 1, 1, 0, 0, 1, 1);
        yes("start", x.start(0, 0));
        shows(x, 0, 0, 0, 0, 0, 0, 0, 7, 7, 1, 1, 0, 0, 2, 1);
        due("what was sent stays under way", x.changes(0, 0), 1);
    }

    private static void stopping() {
        part = "promise 3, stop";
        ThreeLinkPair x = new ThreeLinkPair();
        no("stop of an OUT side", x.stop(0, 0));
        x.start(0, 0);
        ticks(x, 3);
        yes("stop of a SEEKING side", x.stop(0, 0));
        due("state", x.state(0, 0), OUT);
        due("age", x.of(0, 0, AGE), 0);
        due("no changeover as it did not serve", x.changes(0, 0), 0);
        no("stop again", x.stop(0, 0));
        noSuchIndex("link -1", () -> x.stop(-1, 0));
        noSuchIndex("link 3", () -> x.stop(3, 1));
        noSuchIndex("end -1", () -> x.stop(0, -1));
        noSuchIndex("end 2", () -> x.stop(0, 2));
        ThreeLinkPair y = serving(2);
        yes("stop of a SERVING side", y.stop(2, 1));
        due("a changeover at its end", y.changes(2, 1), 1);
        due("none at the other end", y.changes(2, 0), 0);
        due("the other side", y.state(2, 0), SERVING);
    }

    private static void stoppingSaysOutOnce() {
        part = "promise 3, stop says OUT once";
        ThreeLinkPair x = new ThreeLinkPair();
        x.start(0, 0);
        x.stop(0, 0);
        due("tick", x.tick(), 0);
        due("OUT comes", x.tick(), 1);
        due("nothing comes", x.tick(), 0);
        x.start(0, 0);
        x.stop(0, 0);
        x.start(0, 0);
        due("tick", x.tick(), 0);
        due("SEEK comes in place of OUT", x.tick(), 1);
        due("it was heard", x.of(0, 1, HEARD), 3);
        ThreeLinkPair y = serving(0);
        y.stop(0, 0);
        y.start(0, 0);
        y.stop(0, 0);
        ticks(y, 2);
        due("OUT came though it was started between", y.state(0, 1), OUT);
        ThreeLinkPair z = new ThreeLinkPair();
        z.start(0, 0);
        z.stop(0, 0);
        z.start(0, 1);
        ticks(z, 3);
        due("OUT leaves a SEEKING side", z.state(0, 1), SEEKING);
    }

    private static void faults() {
        part = "promise 4, fault";
        ThreeLinkPair x = new ThreeLinkPair();
        x.start(0, 0);
        x.fault(0, 1, LOSE, 2);
        due("nothing comes", x.tick(), 0);
        due("the first one is lost", x.tick(), 0);
        due("the second one is lost", x.tick(), 0);
        due("nothing was heard", x.of(0, 1, HEARD), 0);
        due("the third one comes", x.tick(), 1);
        due("it was heard", x.of(0, 1, HEARD), 1);
        x.fault(0, 1, DAMAGE, 99);
        due("damaged", x.tick(), 0);
        x.fault(0, 1, LOSE, 1);
        due("lost in place of damaged", x.tick(), 0);
        due("no more", x.tick(), 1);
        x.fault(0, 1, LOSE, 5);
        x.fault(0, 1, 0, 5);
        due("with how 0 none", x.tick(), 1);
        x.fault(0, 1, LOSE, 0);
        due("none when n is 0", x.tick(), 1);
        x.fault(0, 0, LOSE, 99);
        due("the other side's are its own", x.tick(), 1);
        wrongFaults(x);
        due("what was refused changed nothing", x.tick(), 1);
    }

    private static void wrongFaults(ThreeLinkPair x) {
        Class<?> argument = IllegalArgumentException.class;
        refused("how -1", argument, () -> x.fault(0, 1, -1, 1));
        refused("how 3", argument, () -> x.fault(0, 1, 3, 1));
        refused("n -1", argument, () -> x.fault(0, 1, 1, -1));
        refused("n 100", argument, () -> x.fault(0, 1, 2, 100));
        refused("n 100 with how 0", argument, () -> x.fault(0, 1, 0, 100));
        noSuchIndex("link 3", () -> x.fault(3, 0, 1, 1));
        noSuchIndex("link -1", () -> x.fault(-1, 0, 1, 1));
        noSuchIndex("end 2", () -> x.fault(0, 2, 1, 1));
        noSuchIndex("end -1", () -> x.fault(0, -1, 1, 1));
        noSuchIndex("the link before the how", () -> x.fault(3, 0, 3, 1));
        noSuchIndex("the end before the n", () -> x.fault(0, 2, 1, 100));
    }

    private static void faultsOnProving() {
        part = "promise 4, fault on a proving side";
        ThreeLinkPair x = new ThreeLinkPair();
        startBoth(x, 0);
        ticks(x, 3);
        due("age", x.of(0, 0, AGE), 2);
        x.fault(0, 0, DAMAGE, 5);
        ticks(x, 1);
        shows(x, 0, 0, 3, 1, 0);
        ticks(x, 1);
        shows(x, 0, 0, 1, 0, 1);
        ticks(x, 2);
        shows(x, 0, 0, 1, 0, 2);
        ticks(x, 1);
        shows(x, 0, 0, 2, 1, 2);
        due("state", x.state(0, 0), PROVING);
        x.fault(0, 0, DAMAGE, 1);
        ticks(x, 1);
        due("the third try", x.state(0, 0), OUT);
        shows(x, 0, 0, 0, 0, 3);
        due("no changeover", x.changes(0, 0), 0);
        ThreeLinkPair y = new ThreeLinkPair();
        y.start(0, 0);
        ticks(y, 1);
        y.fault(0, 1, DAMAGE, 9);
        y.start(0, 1);
        ticks(y, 5);
        due("damaged ones leave a SEEKING side", y.state(0, 1), SEEKING);
        shows(y, 0, 1, 5, 0, 0, 0);
    }

    private static void faultsOnServing() {
        part = "promise 4, fault on a serving side";
        ThreeLinkPair x = serving(0);
        x.fault(0, 1, DAMAGE, 3);
        ticks(x, 3);
        due("BUCKET", x.of(0, 1, BUCKET), 3);
        ticks(x, 6);
        due("seven good ones, one by which it came to serve", x.of(0, 1, BUCKET), 3);
        ticks(x, 1);
        due("the eighth good one", x.of(0, 1, BUCKET), 2);
        ticks(x, 8);
        due("BUCKET", x.of(0, 1, BUCKET), 1);
        ticks(x, 8);
        due("BUCKET", x.of(0, 1, BUCKET), 0);
        ticks(x, 8);
        due("BUCKET is not less than 0", x.of(0, 1, BUCKET), 0);
        x.fault(0, 1, DAMAGE, 4);
        ticks(x, 3);
        due("state", x.state(0, 1), SERVING);
        ticks(x, 1);
        due("BUCKET at 4", x.state(0, 1), OUT);
        due("BUCKET stays", x.of(0, 1, BUCKET), 4);
        due("its changeover", x.changes(0, 1), 1);
        ThreeLinkPair y = serving(0);
        y.fault(0, 1, LOSE, 30);
        ticks(y, 30);
        due("lost ones do not count", y.of(0, 1, BUCKET), 0);
        due("state", y.state(0, 1), SERVING);
    }

    private static void submitting() {
        part = "promise 5, submit";
        ThreeLinkPair x = new ThreeLinkPair();
        no("no link is open", x.submit(0, 1, 5));
        due("the link stays", x.link(0, 1), 1);
        noSuchIndex("end -1", () -> x.submit(-1, 0, 0));
        noSuchIndex("end 2", () -> x.submit(2, 0, 0));
        noSuchIndex("class -1", () -> x.submit(0, -1, 0));
        noSuchIndex("class 4", () -> x.submit(0, 4, 0));
        x.start(0, 0);
        no("SEEKING is not open", x.submit(0, 0, 5));
        ThreeLinkPair y = serving(0, 2);
        yes("class 1 goes on link 2", y.submit(0, 1, 6));
        due("link", y.link(0, 1), 2);
        yes("class 3 goes on link 0", y.submit(0, 3, 7));
        due("link", y.link(0, 3), 0);
        due("queued", y.of(0, 0, QUEUED), 1);
        due("queued", y.of(2, 0, QUEUED), 1);
        due("not at the other end", y.of(2, 1, QUEUED) + y.link(1, 1), 1);
        submitAll(y, 0, 0, 1, 2, 3, 4, 5);
        no("six of any class are queued", y.submit(0, 0, 8));
        no("of another class too", y.submit(0, 3, 8));
        due("queued", y.of(0, 0, QUEUED), 6);
        due("nothing is held", y.held(0), 0);
        ThreeLinkPair z = serving(0);
        submitAll(z, 0, 0, 1, 2, 3, 4, 5, 6);
        no("refused as link 0 is full", z.submit(0, 2, 9));
        due("the link stays as it was chosen", z.link(0, 2), 0);
        ticks(z, 1);
        yes("one was sent", z.submit(0, 2, 9));
    }

    private static void submittingStaysOnItsLink() {
        part = "promise 5, submit stays on its link";
        ThreeLinkPair x = serving(0);
        startBoth(x, 1);
        ticks(x, 7);
        submitAll(x, 0, 1, 1);
        due("link 1 is not open yet", x.link(0, 1), 0);
        ticks(x, 1);
        due("link 1", x.state(1, 0), SERVING);
        submitAll(x, 0, 1, 2);
        due("its first one is sent on link 0", x.link(0, 1), 0);
        submitAll(x, 0, 3, 3);
        ticks(x, 5);
        due("all were answered", x.of(0, 0, SENT), 0);
        submitAll(x, 0, 1, 4);
        due("none of its class is on link 0", x.link(0, 1), 1);
        takeAll(x, 1, (1L << 32) + 1, (1L << 32) + 2, (3L << 32) + 3);
    }

    private static void submittingIsHeld() {
        part = "promise 5, submit while a changeover is under way";
        ThreeLinkPair x = serving(0);
        x.stop(0, 0);
        submitAll(x, 0, 0, 1, 2, 3, 4);
        submitAll(x, 0, 3, 5, 6, 7, 8);
        due("held", x.held(0), 8);
        no("eight are held", x.submit(0, 0, 9));
        no("class 1 goes on link 1, which is not open", x.submit(0, 1, 9));
        due("the other end holds none", x.held(1), 0);
        ticks(x, 3);
        startBoth(x, 1);
        ticks(x, 22);
        due("held", x.held(0), 0);
        due("they went on by link 1", x.link(0, 0) * 10 + x.link(0, 3), 11);
        takeAll(x, 1, 1, 2, 3, 4, (3L << 32) + 5, (3L << 32) + 6, (3L << 32) + 7, (3L << 32) + 8);
    }

    private static void tickCounts() {
        part = "promise 6, tick counts";
        ThreeLinkPair x = new ThreeLinkPair();
        startBoth(x, 0, 1, 2);
        due("nothing was sent", x.tick(), 0);
        due("six", x.tick(), 6);
        x.fault(0, 0, LOSE, 1);
        x.fault(2, 1, DAMAGE, 1);
        due("one lost, one damaged", x.tick(), 4);
        due("six again", x.tick(), 6);
        ThreeLinkPair y = new ThreeLinkPair();
        y.start(2, 1);
        y.tick();
        due("one comes to an OUT side too", y.tick(), 1);
        due("its turn is heard there", y.of(2, 0, HEARD), 1);
    }

    private static void alignment() {
        part = "promise 6, alignment";
        ThreeLinkPair x = new ThreeLinkPair();
        startBoth(x, 1);
        int[] states = {SEEKING, PROVING, PROVING, PROVING, PROVING, PROVING, READY, SERVING, SERVING};
        int[] ages = {1, 1, 2, 3, 4, 5, 0, 0, 0};
        for (int i = 0; i < states.length; i++) {
            x.tick();
            for (int end = 0; end < 2; end++) {
                due("state after tick " + i, x.state(1, end), states[i]);
                due("age after tick " + i, x.of(1, end, AGE), ages[i]);
            }
        }
    }

    private static void ageing() {
        part = "promise 6, ageing";
        ThreeLinkPair x = new ThreeLinkPair();
        x.start(0, 0);
        ticks(x, 14);
        due("SEEKING for 14 ticks", x.state(0, 0), SEEKING);
        due("age", x.of(0, 0, AGE), 14);
        ticks(x, 1);
        due("SEEKING at 15", x.state(0, 0), OUT);
        due("age", x.of(0, 0, AGE), 0);
        ThreeLinkPair y = new ThreeLinkPair();
        startBoth(y, 0);
        ticks(y, 7);
        due("READY", y.state(0, 0), READY);
        y.fault(0, 0, LOSE, 99);
        ticks(y, 14);
        due("READY for 14 ticks", y.state(0, 0), READY);
        due("age", y.of(0, 0, AGE), 14);
        due("the other side serves", y.state(0, 1), SERVING);
        ticks(y, 1);
        due("READY at 15", y.state(0, 0), OUT);
        due("it did not serve", y.changes(0, 0), 0);
        ticks(y, 1);
        due("OUT came to the other side", y.state(0, 1), OUT);
        due("which served", y.changes(0, 1), 1);
    }

    private static void statusUnits() {
        part = "promise 6, status units";
        ThreeLinkPair x = serving(0);
        x.stop(0, 0);
        x.start(0, 0);
        ticks(x, 1);
        due("nothing came yet", x.state(0, 1), SERVING);
        ticks(x, 1);
        due("SEEK when SERVING", x.state(0, 1), OUT);
        due("what it heard", x.of(0, 1, HEARD), 2);
        ThreeLinkPair y = new ThreeLinkPair();
        startBoth(y, 0);
        ticks(y, 7);
        y.stop(0, 0);
        y.start(0, 0);
        y.fault(0, 1, LOSE, 1);
        ticks(y, 2);
        due("SEEK when READY", y.state(0, 1), OUT);
        ThreeLinkPair z = new ThreeLinkPair();
        startBoth(z, 0);
        ticks(z, 4);
        z.stop(0, 0);
        ticks(z, 1);
        due("OUT did not come yet", z.state(0, 1), PROVING);
        ticks(z, 1);
        due("OUT when PROVING", z.state(0, 1), OUT);
        ThreeLinkPair w = new ThreeLinkPair();
        startBoth(w, 0);
        ticks(w, 2);
        w.fault(0, 1, DAMAGE, 1);
        ticks(w, 2);
        shows(w, 0, 1, 3, 1);
        w.stop(0, 0);
        w.start(0, 0);
        w.fault(0, 0, LOSE, 1);
        ticks(w, 1);
        due("PROVE was lost", w.state(0, 0), SEEKING);
        shows(w, 0, 1, 4, 1);
        ticks(w, 1);
        due("SEEK when PROVING", w.state(0, 1), PROVING);
        shows(w, 0, 1, 1, 0);
        due("PROVE when SEEKING", w.state(0, 0), PROVING);
    }

    private static void provingOnes() {
        part = "promise 6, PROVE to READY and SERVING sides";
        ThreeLinkPair x = new ThreeLinkPair();
        startBoth(x, 0);
        ticks(x, 6);
        x.fault(0, 0, DAMAGE, 2);
        ticks(x, 1);
        due("one side is READY", x.state(0, 1), READY);
        due("one error does not keep the other one back", x.state(0, 0), READY);
        due("which stays", x.of(0, 0, ERRORS), 1);
        due("no try", x.of(0, 0, TRIES), 0);
        ThreeLinkPair y = new ThreeLinkPair();
        startBoth(y, 0);
        ticks(y, 4);
        y.fault(0, 0, DAMAGE, 2);
        ticks(y, 3);
        due("it is READY", y.state(0, 1), READY);
        due("it is proved anew", y.state(0, 0), PROVING);
        ticks(y, 2);
        due("PROVE leaves a READY side", y.state(0, 1), READY);
        due("its age goes on", y.of(0, 1, AGE), 2);
        due("a fill leaves a PROVING side", y.state(0, 0), PROVING);
        ticks(y, 2);
        due("both are READY", y.state(0, 0) * 10 + y.state(0, 1), 10 * READY + READY);
        ticks(y, 1);
        due("then both serve", y.state(0, 0) * 10 + y.state(0, 1), 10 * SERVING + SERVING);
    }

    private static void numbersAndAnswers() {
        part = "promise 6, numbers and answers";
        ThreeLinkPair x = serving(0);
        submitAll(x, 0, 0, 1, 2, 3, 4, 5, 6);
        ticks(x, 1);
        due("FORE", x.of(0, 0, FORE), 0);
        due("sent", x.of(0, 0, SENT), 1);
        due("queued", x.of(0, 0, QUEUED), 5);
        ticks(x, 1);
        due("BACK", x.of(0, 1, BACK), 0);
        due("sent", x.of(0, 0, SENT), 2);
        due("IDLE", x.of(0, 0, IDLE), 1);
        ticks(x, 1);
        due("the first one was answered", x.of(0, 0, SENT), 2);
        due("IDLE anew", x.of(0, 0, IDLE), 1);
        ticks(x, 3);
        submitAll(x, 0, 0, 7, 8, 9, 10);
        ticks(x, 4);
        due("FORE goes round", x.of(0, 0, FORE), 1);
        due("BACK goes round", x.of(0, 1, BACK), 0);
        ticks(x, 3);
        due("nothing is sent", x.of(0, 0, SENT), 0);
        due("IDLE", x.of(0, 0, IDLE), 0);
        due("the bits are as at first", x.of(0, 0, FORE_BIT) + x.of(0, 1, BACK_BIT), 2);
        takeAll(x, 1, 1, 2, 3, 4, 5, 6, 7, 8, 9, 10);
        ThreeLinkPair y = serving(0);
        submitAll(y, 0, 0, 1, 2, 3, 4, 5, 6);
        y.fault(0, 0, LOSE, 99);
        ticks(y, 5);
        due("five are sent", y.of(0, 0, SENT), 5);
        ticks(y, 2);
        due("the sixth one waits", y.of(0, 0, QUEUED), 1);
        due("a fill comes in its place", y.inbox(1), 5);
        due("BACK", y.of(0, 1, BACK), 4);
    }

    private static void sendingAgain() {
        part = "promise 6, sending again";
        ThreeLinkPair x = serving(0);
        submitAll(x, 0, 0, 1, 2, 3);
        ticks(x, 1);
        x.fault(0, 1, LOSE, 1);
        ticks(x, 2);
        due("the second one without the first", x.of(0, 1, BACK_BIT), 0);
        due("nothing was taken", x.inbox(1), 0);
        ticks(x, 1);
        due("BACK BIT came", x.of(0, 0, FORE_BIT), 0);
        due("all three are sent", x.of(0, 0, SENT), 3);
        ticks(x, 1);
        due("the first one came again", x.inbox(1), 1);
        ticks(x, 2);
        takeAll(x, 1, 1, 2, 3);
        due("FORE", x.of(0, 0, FORE), 2);
        ThreeLinkPair y = serving(0);
        submitAll(y, 0, 0, 9);
        ticks(y, 1);
        y.fault(0, 1, DAMAGE, 1);
        ticks(y, 1);
        due("damaged", y.of(0, 1, BUCKET), 1);
        ticks(y, 1);
        due("a fill tells that one is missing", y.of(0, 1, BACK_BIT), 0);
        ticks(y, 2);
        takeAll(y, 1, 9);
    }

    private static void dueAgainFromTheFirst() {
        part = "promise 6, due again before what is queued";
        ThreeLinkPair x = serving(0);
        submitAll(x, 0, 0, 1, 2, 3, 4, 5, 6);
        ticks(x, 1);
        x.fault(0, 1, LOSE, 1);
        ticks(x, 3);
        due("three are sent", x.of(0, 0, SENT), 3);
        due("three are queued", x.of(0, 0, QUEUED), 3);
        ticks(x, 2);
        due("those due again go first", x.of(0, 0, QUEUED), 3);
        x.fault(0, 1, LOSE, 1);
        ticks(x, 12);
        takeAll(x, 1, 1, 2, 3, 4, 5, 6);
        due("all are answered", x.of(0, 0, SENT), 0);
        due("lost", x.lost(), 0);
    }

    private static void idleFalls() {
        part = "promise 6, IDLE";
        ThreeLinkPair x = serving(0);
        submitAll(x, 0, 0, 1);
        x.fault(0, 0, LOSE, 99);
        ticks(x, 1);
        due("IDLE before it is sent", x.of(0, 0, IDLE), 0);
        ticks(x, 11);
        due("IDLE", x.of(0, 0, IDLE), 11);
        due("state", x.state(0, 0), SERVING);
        ticks(x, 1);
        due("IDLE at 12", x.state(0, 0), OUT);
        due("IDLE stays", x.of(0, 0, IDLE), 12);
        due("nothing is sent", x.of(0, 0, SENT), 0);
        due("its changeover", x.changes(0, 0), 1);
    }

    private static void states() {
        part = "promise 7, state";
        ThreeLinkPair x = serving(1);
        due("SERVING", x.state(1, 1), SERVING);
        due("OUT", x.state(0, 1), OUT);
        noSuchIndex("link -1", () -> x.state(-1, 0));
        noSuchIndex("link 3", () -> x.state(3, 0));
        noSuchIndex("end -1", () -> x.state(0, -1));
        noSuchIndex("end 2", () -> x.state(0, 2));
    }

    private static void ofSides() {
        part = "promise 8, of";
        ThreeLinkPair x = serving(1);
        submitAll(x, 0, 1, 5, 6, 7);
        submitAll(x, 1, 1, 8);
        ticks(x, 2);
        shows(x, 1, 0, 0, 0, 0, 0, 1, 1, 0, 1, 1, 2, 1, 1, 1);
        shows(x, 1, 1, 0, 0, 0, 0, 1, 0, 0, 1, 1, 1, 0, 1, 1);
        noSuchIndex("what -1", () -> x.of(0, 0, -1));
        noSuchIndex("what 13", () -> x.of(0, 0, 13));
        noSuchIndex("link -1", () -> x.of(-1, 0, 0));
        noSuchIndex("link 3", () -> x.of(3, 0, 0));
        noSuchIndex("end -1", () -> x.of(0, -1, 0));
        noSuchIndex("end 2", () -> x.of(0, 2, 0));
    }

    private static void links() {
        part = "promise 9, link";
        ThreeLinkPair x = new ThreeLinkPair();
        for (int end = 0; end < 2; end++) {
            for (int kind = 0; kind < 4; kind++) {
                due("link at first", x.link(end, kind), kind % 3);
            }
        }
        noSuchIndex("end -1", () -> x.link(-1, 0));
        noSuchIndex("end 2", () -> x.link(2, 0));
        noSuchIndex("class -1", () -> x.link(0, -1));
        noSuchIndex("class 4", () -> x.link(0, 4));
        ThreeLinkPair y = serving(0, 1, 2);
        y.stop(0, 0);
        due("link while it goes on", y.link(0, 0), 0);
        ticks(y, 6);
        due("class 0 by link 1", y.link(0, 0), 1);
        due("class 3 by link 1", y.link(0, 3), 1);
        due("class 2 as before", y.link(0, 2), 2);
        due("class 0 at end 1", y.link(1, 0), 1);
    }

    private static void changesByAnswer() {
        part = "promise 10, changes by the answer";
        ThreeLinkPair x = serving(0, 1);
        submitAll(x, 0, 0, 1, 2, 3);
        ticks(x, 2);
        due("one came", x.inbox(1), 1);
        x.fault(0, 1, LOSE, 99);
        x.stop(0, 0);
        due("changes", x.changes(0, 0), 1);
        ticks(x, 1);
        due("the order is sent on link 1", x.of(1, 0, SENT), 1);
        ticks(x, 1);
        due("by the order the other side fell", x.state(0, 1), OUT);
        due("and its changeover ended", x.changes(0, 1), 0);
        due("changes", x.changes(0, 0), 1);
        ticks(x, 1);
        due("the answer came", x.changes(0, 0), 0);
        due("link", x.link(0, 0), 1);
        ticks(x, 3);
        takeAll(x, 1, 1, 2, 3);
        due("lost", x.lost(), 0);
        noSuchIndex("link -1", () -> x.changes(-1, 0));
        noSuchIndex("link 3", () -> x.changes(3, 0));
        noSuchIndex("end -1", () -> x.changes(0, -1));
        noSuchIndex("end 2", () -> x.changes(0, 2));
    }

    private static void changesByOrder() {
        part = "promise 10, changes by the order";
        ThreeLinkPair x = serving(0, 2);
        submitAll(x, 1, 0, 1, 2, 3, 4);
        x.fault(0, 1, LOSE, 99);
        ticks(x, 3);
        due("two came, none was answered", x.inbox(0) * 10 + x.of(0, 1, SENT), 23);
        x.stop(0, 0);
        ticks(x, 2);
        due("the order settled it at end 1", x.changes(0, 1), 0);
        due("link of class 0 at end 1", x.link(1, 0), 2);
        due("the answer and two of the messages", x.of(2, 1, QUEUED) + x.of(2, 1, SENT), 2 + 1);
        ticks(x, 4);
        takeAll(x, 0, 1, 2, 3, 4);
    }

    private static void changesSettledWithoutOpenLink() {
        part = "promise 10, settled but no link is open";
        ThreeLinkPair x = serving(0, 1);
        x.stop(0, 0);
        x.stop(1, 0);
        submitAll(x, 0, 0, 5);
        submitAll(x, 0, 1, 6);
        ticks(x, 3);
        due("both fell at end 1 too", x.changes(0, 1) * 10 + x.changes(1, 1), 11);
        startBoth(x, 1);
        ticks(x, 8);
        due("link 1 serves", x.state(1, 0), SERVING);
        due("both orders were said", x.of(1, 0, SENT) * 10 + x.of(1, 0, QUEUED), 11);
        due("none is settled", x.changes(0, 0) * 10 + x.changes(1, 0), 11);
        ticks(x, 1);
        due("settled, but link 1 is not open", x.changes(0, 0) * 10 + x.changes(1, 0), 21);
        due("held", x.held(0), 2);
        ticks(x, 1);
        due("that of link 1 ended after that of link 0", x.changes(0, 0) * 10 + x.changes(1, 0), 20);
        due("class 1 stays on link 1", x.link(0, 1), 1);
        due("class 0 is still on link 0", x.link(0, 0), 0);
        due("held", x.held(0), 1);
        ticks(x, 1);
        due("both ended", x.changes(0, 0) * 10 + x.changes(1, 0), 0);
        due("class 0 by link 1", x.link(0, 0), 1);
        due("held", x.held(0), 0);
        ticks(x, 8);
        takeAll(x, 1, (1L << 32) + 6, 5);
    }

    private static void changesWaitForAServingLink() {
        part = "promise 10, no link serves";
        ThreeLinkPair x = serving(0, 1);
        x.stop(0, 0);
        x.stop(1, 0);
        submitAll(x, 0, 0, 5);
        submitAll(x, 0, 1, 6);
        ticks(x, 30);
        due("none is settled", x.changes(0, 0) * 10 + x.changes(1, 0), 11);
        due("held", x.held(0), 2);
        startBoth(x, 2);
        ticks(x, 8);
        due("link 2 serves", x.state(2, 0), SERVING);
        due("both ended", x.changes(0, 0) + x.changes(1, 0), 0);
        due("links", x.link(0, 0) * 10 + x.link(0, 1), 22);
        ticks(x, 8);
        takeAll(x, 1, 5, (1L << 32) + 6);
    }

    private static void changeoverAgain() {
        part = "promise 10, a changeover that begins again";
        ThreeLinkPair x = serving(0);
        submitAll(x, 0, 0, 1, 2);
        ticks(x, 1);
        x.stop(0, 0);
        x.fault(0, 1, LOSE, 1);
        ticks(x, 3);
        due("both are OUT", x.state(0, 0) + x.state(0, 1), 0);
        startBoth(x, 0);
        ticks(x, 8);
        due("it serves again", x.state(0, 0), SERVING);
        due("the order is sent on it", x.of(0, 0, SENT), 1);
        due("under way", x.changes(0, 0), 1);
        x.stop(0, 0);
        due("still the same one", x.changes(0, 0), 1);
        submitAll(x, 0, 0, 3);
        ticks(x, 3);
        startBoth(x, 0);
        ticks(x, 16);
        due("ended", x.changes(0, 0) + x.changes(0, 1), 0);
        due("held", x.held(0), 0);
        due("lost", x.lost(), 1);
        takeAll(x, 1, 2, 3);
    }

    private static void orderWithoutMemory() {
        part = "promise 10, an order about a turn that was not heard";
        ThreeLinkPair x = serving(1);
        serveUnheard(x);
        submitAll(x, 1, 0, 4, 5);
        ticks(x, 2);
        due("one came", x.inbox(0), 1);
        x.stop(0, 1);
        ticks(x, 6);
        due("ended", x.changes(0, 0) + x.changes(0, 1), 0);
        ticks(x, 4);
        due("the answer was NONE, so nothing was given up", x.lost(), 0);
        takeAll(x, 0, 4, 5, 4, 5);
    }

    private static void heldGoBehindKept() {
        part = "promise 11, held";
        ThreeLinkPair x = serving(0, 1);
        submitAll(x, 0, 0, 1, 2);
        submitAll(x, 0, 3, 3);
        x.stop(0, 0);
        submitAll(x, 0, 3, 4);
        submitAll(x, 0, 0, 5);
        due("held", x.held(0), 2);
        due("at the other end", x.held(1), 0);
        submitAll(x, 0, 1, 6);
        due("class 1 goes on as before", x.held(0), 2);
        ticks(x, 12);
        due("held", x.held(0), 0);
        takeAll(x, 1, (1L << 32) + 6, 1, 2, (3L << 32) + 3, (3L << 32) + 4, 5);
        noSuchIndex("end -1", () -> x.held(-1));
        noSuchIndex("end 2", () -> x.held(2));
    }

    private static void inboxes() {
        part = "promise 12, inbox";
        ThreeLinkPair x = serving(0);
        submitAll(x, 1, 0, 1, 2);
        ticks(x, 1);
        due("nothing came", x.inbox(0), 0);
        ticks(x, 1);
        due("one came", x.inbox(0), 1);
        ticks(x, 1);
        due("two came", x.inbox(0), 2);
        due("none at the other end", x.inbox(1), 0);
        x.take(0);
        due("one was taken", x.inbox(0), 1);
        noSuchIndex("end -1", () -> x.inbox(-1));
        noSuchIndex("end 2", () -> x.inbox(2));
    }

    private static void taking() {
        part = "promise 13, take";
        ThreeLinkPair x = serving(0);
        Class<?> none = NoSuchElementException.class;
        refused("take of nothing", none, () -> x.take(0));
        noSuchIndex("end -1", () -> x.take(-1));
        noSuchIndex("end 2", () -> x.take(2));
        submitAll(x, 0, 3, -1);
        submitAll(x, 0, 0, Integer.MIN_VALUE);
        submitAll(x, 0, 2, Integer.MAX_VALUE);
        submitAll(x, 0, 1, 0);
        ticks(x, 5);
        due("class 3, word -1", x.take(1), 0x3FFFFFFFFL);
        due("class 0, the least word", x.take(1), 0x80000000L);
        due("class 2, the greatest word", x.take(1), 0x27FFFFFFFL);
        due("class 1, word 0", x.take(1), 0x100000000L);
        refused("take of nothing", none, () -> x.take(1));
        refused("take of nothing at the other end", none, () -> x.take(0));
    }

    private static void losing() {
        part = "promise 14, lost";
        ThreeLinkPair x = serving(0);
        submitAll(x, 0, 0, 1, 2, 3, 4);
        x.fault(0, 1, LOSE, 99);
        ticks(x, 2);
        x.stop(0, 0);
        x.stop(0, 1);
        x.fault(0, 1, 0, 0);
        ticks(x, 4);
        startBoth(x, 1);
        ticks(x, 8);
        due("link 1 serves", x.state(1, 0), SERVING);
        x.fault(1, 0, LOSE, 99);
        ticks(x, 7);
        due("WAIT is 19", x.lost(), 0);
        due("not settled", x.changes(0, 0), 1);
        ticks(x, 1);
        due("WAIT is 20: two had numbers", x.lost(), 2);
        due("ended", x.changes(0, 0), 0);
        x.fault(1, 0, 0, 0);
        ticks(x, 6);
        takeAll(x, 1, 3, 4);
        due("lost stays", x.lost(), 2);
        ThreeLinkPair y = serving(0);
        submitAll(y, 0, 0, 1, 2, 3, 4);
        ticks(y, 2);
        y.stop(0, 0);
        y.stop(0, 1);
        ticks(y, 10);
        startBoth(y, 1);
        ticks(y, 8);
        due("WAIT is 18 when it serves", y.changes(0, 0), 1);
        ticks(y, 1);
        due("the order of the other end comes in time", y.lost(), 0);
        ticks(y, 6);
        takeAll(y, 1, 1, 2, 3, 4);
    }

    private static void ordersAreNotLost() {
        part = "promise 14, orders are not lost";
        ThreeLinkPair x = serving(0, 1);
        x.fault(0, 1, LOSE, 99);
        x.stop(1, 0);
        ticks(x, 1);
        due("the order is sent on link 0", x.of(0, 0, SENT), 1);
        x.stop(0, 0);
        x.stop(0, 1);
        ticks(x, 20);
        startBoth(x, 2);
        ticks(x, 8);
        due("link 2", x.state(2, 0), SERVING);
        due("changes", x.changes(0, 0), 0);
        due("lost", x.lost(), 0);
    }
}
