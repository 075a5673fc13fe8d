/** The boundary cases of an end that "Terms" names, each sentence by a run of its own. */
public final class EndEdgesTest extends Checks {
    public static void main(String[] args) {
        openAndChosen();
        submitting();
        toSay();
        aChangeoverBegins();
        toSettle();
        eachTick();
        itEnds();
        anOrderIsTaken();
        anAnswerIsTaken();
        aTick();
        finish("every edge of an end holds");
    }

    // A link is OPEN; CHOOSING a link

    private static void openAndChosen() {
        openWhenServing();
        openWhenNoChangeoverIsUnderWay();
        openAtAnEnd();
        choosingInOrder();
        choosingNone();
    }

    private static void openWhenServing() {
        part = "A link is OPEN when its side is SERVING";
        ThreeLinkPair x = new ThreeLinkPair();
        startBoth(x, 0);
        int[] waits = {0, 2, 5};
        int[] states = {SEEKING, PROVING, READY};
        for (int i = 0; i < waits.length; i++) {
            ticks(x, waits[i]);
            bothAre(x, 0, states[i]);
            no("submit in state " + states[i], x.submit(0, 0, 1));
        }
        x.fault(0, 1, LOSE, 1);
        ticks(x, 1);
        due("end 0", x.state(0, 0), SERVING);
        yes("submit there", x.submit(0, 0, 1));
        due("end 1", x.state(0, 1), READY);
        no("submit there", x.submit(1, 0, 1));
    }

    private static void openWhenNoChangeoverIsUnderWay() {
        part = "A link is OPEN when no changeover of it is under way";
        ThreeLinkPair x = serving(0);
        stopBoth(x, 0);
        startBoth(x, 0);
        ticks(x, 8);
        bothAre(x, 0, SERVING);
        due("changes", x.changes(0, 0), 1);
        no("class 1 finds no open link", x.submit(0, 1, 1));
        due("its link", x.link(0, 1), 1);
        ticks(x, 1);
        due("changes", x.changes(0, 0), 0);
        yes("now it does", x.submit(0, 1, 1));
        due("its link", x.link(0, 1), 0);
    }

    private static void openAtAnEnd() {
        part = "A link is OPEN when no changeover of it is under way there";
        ThreeLinkPair x = serving(0, 1);
        x.stop(0, 0);
        yes("end 0 holds it", x.submit(0, 0, 1));
        yes("end 1 queues it", x.submit(1, 0, 1));
        due("held at end 0", x.held(0), 1);
        due("held at end 1", x.held(1), 0);
        due("queued at end 1", x.of(0, 1, QUEUED), 1);
    }

    private static void choosingInOrder() {
        part = "CHOOSING: the open one of class % 3, (class + 1) % 3, (class + 2) % 3, in that order";
        int[][] open = {{0}, {1}, {2}, {0, 1}, {0, 2}, {1, 2}, {0, 1, 2}};
        int[][] chosen = {
            {0, 0, 0, 0}, {1, 1, 1, 1}, {2, 2, 2, 2}, {0, 1, 0, 0}, {0, 2, 2, 0}, {1, 1, 2, 1}, {0, 1, 2, 0}};
        for (int i = 0; i < open.length; i++) {
            ThreeLinkPair x = serving(open[i]);
            for (int kind = 0; kind < 4; kind++) {
                for (int end = 0; end < 2; end++) {
                    submitAll(x, end, kind, kind);
                    due("link of class " + kind + " of row " + i, x.link(end, kind), chosen[i][kind]);
                }
            }
        }
    }

    private static void choosingNone() {
        part = "SUBMITTING: if there is none, it is refused and the link stays";
        ThreeLinkPair x = new ThreeLinkPair();
        for (int kind = 0; kind < 4; kind++) {
            no("submit", x.submit(1, kind, 1));
            due("link", x.link(1, kind), kind % 3);
            due("queued", x.of(kind % 3, 1, QUEUED), 0);
        }
        due("held", x.held(1), 0);
    }

    // SUBMITTING

    private static void submitting() {
        heldThoughAnotherIsOpen();
        fewerThanEightHeld();
        eightHeldOfAllClasses();
        stayingWhileQueued();
        stayingWhileSent();
        movingWhenNoneIsThere();
        fewerThanSixQueued();
        sixOfAnyKind();
        refusedButChosen();
    }

    private static void heldThoughAnotherIsOpen() {
        part = "SUBMITTING: while a changeover of its class's link is under way, it is HELD";
        ThreeLinkPair x = serving(0, 1);
        x.stop(0, 0);
        submitAll(x, 0, 0, 1);
        submitAll(x, 0, 3, 2);
        due("held", x.held(0), 2);
        due("its link", x.link(0, 0), 0);
        due("on link 1", underWay(x, 1, 0), 0);
        submitAll(x, 0, 1, 3);
        due("class 1 goes on link 1: held", x.held(0), 2);
        due("on link 1", underWay(x, 1, 0), 1);
    }

    private static void fewerThanEightHeld() {
        part = "SUBMITTING: HELD, when fewer than 8 are held, otherwise refused";
        ThreeLinkPair x = serving(0, 1);
        x.stop(0, 0);
        for (int count = 0; count < 8; count++) {
            due("held", x.held(0), count);
            yes("submit", x.submit(0, 0, count));
        }
        no("the ninth", x.submit(0, 0, 8));
        due("held", x.held(0), 8);
        yes("but class 1 is queued", x.submit(0, 1, 9));
        ticks(x, 12);
        due("held", x.held(0), 0);
        takeAll(x, 1, message(1, 9), 0, 1, 2, 3, 4, 5, 6, 7);
    }

    private static void eightHeldOfAllClasses() {
        part = "SUBMITTING: fewer than 8 are held, of all classes at an end";
        ThreeLinkPair x = serving(0, 1);
        stopBoth(x, 0, 1);
        for (int i = 0; i < 4; i++) {
            submitAll(x, 0, 0, i);
            submitAll(x, 0, 1, i);
        }
        no("class 0", x.submit(0, 0, 9));
        no("class 1", x.submit(0, 1, 9));
        no("class 3", x.submit(0, 3, 9));
        due("held", x.held(0), 8);
        submitAll(x, 1, 0, 9);
        due("held at the other end", x.held(1), 1);
    }

    private static void stayingWhileQueued() {
        part = "SUBMITTING: when one of its class is queued on its link, that stays";
        ThreeLinkPair x = serving(0);
        startBoth(x, 1);
        x.fault(0, 0, LOSE, 99);
        submitAll(x, 0, 0, 1, 2, 3, 4, 5);
        ticks(x, 7);
        submitAll(x, 0, 1, 6);
        due("link 1 is not open yet", x.link(0, 1), 0);
        ticks(x, 1);
        bothAre(x, 1, SERVING);
        due("five are sent, that of class 1 is queued", x.of(0, 0, SENT) * 10 + x.of(0, 0, QUEUED), 51);
        submitAll(x, 0, 1, 7);
        due("link of class 1", x.link(0, 1), 0);
        due("queued", x.of(0, 0, QUEUED), 2);
    }

    private static void stayingWhileSent() {
        part = "SUBMITTING: when one of its class is sent on its link, that stays";
        ThreeLinkPair x = serving(0);
        startBoth(x, 1);
        x.fault(0, 0, LOSE, 99);
        submitAll(x, 0, 1, 1);
        ticks(x, 8);
        bothAre(x, 1, SERVING);
        due("it is sent", x.of(0, 0, SENT) * 10 + x.of(0, 0, QUEUED), 10);
        submitAll(x, 0, 1, 2);
        due("link of class 1", x.link(0, 1), 0);
        due("queued", x.of(0, 0, QUEUED), 1);
    }

    private static void movingWhenNoneIsThere() {
        part = "SUBMITTING: when none of its class is queued or sent on its link, the chosen one";
        ThreeLinkPair x = serving(0);
        startBoth(x, 1);
        x.fault(0, 0, LOSE, 8);
        submitAll(x, 0, 1, 1);
        ticks(x, 3);
        due("link of class 1", x.link(0, 1), 0);
        submitAll(x, 0, 0, 2, 3, 4, 5);
        ticks(x, 5);
        due("five are sent, the first one is of class 1", x.of(0, 0, SENT), 5);
        x.fault(0, 1, LOSE, 99);
        ticks(x, 1);
        due("all were answered", x.of(0, 0, SENT), 0);
        submitAll(x, 0, 0, 6);
        submitAll(x, 0, 1, 7);
        due("one of class 0 is there, none of class 1", x.link(0, 1), 1);
        due("link of class 0", x.link(0, 0), 0);
        due("queued", x.of(0, 0, QUEUED) * 10 + x.of(1, 0, QUEUED), 11);
    }

    private static void fewerThanSixQueued() {
        part = "SUBMITTING: queued, when fewer than 6 are queued there, otherwise refused";
        ThreeLinkPair x = serving(0, 1);
        for (int count = 0; count < 6; count++) {
            due("queued", x.of(0, 0, QUEUED), count);
            yes("submit", x.submit(0, 0, count));
        }
        no("the seventh", x.submit(0, 0, 6));
        due("queued", x.of(0, 0, QUEUED), 6);
        due("its link", x.link(0, 0), 0);
        yes("on another link", x.submit(0, 1, 7));
        yes("at the other end", x.submit(1, 0, 8));
        ticks(x, 1);
        yes("when one was sent", x.submit(0, 0, 9));
        no("no more", x.submit(0, 0, 10));
        ticks(x, 9);
        takeAll(x, 1, 0, message(1, 7), 1, 2, 3, 4, 5, 9);
    }

    private static void sixOfAnyKind() {
        part = "SUBMITTING: fewer than 6 (messages of any kind)";
        ThreeLinkPair x = serving(0);
        submitAll(x, 0, 0, 1, 2);
        submitAll(x, 0, 1, 3, 4);
        submitAll(x, 0, 2, 5);
        submitAll(x, 0, 3, 6);
        for (int kind = 0; kind < 4; kind++) {
            no("class " + kind, x.submit(0, kind, 7));
        }
        ThreeLinkPair y = serving(0, 1);
        submitAll(y, 0, 0, 1, 2, 3, 4, 5, 6);
        y.stop(1, 0);
        ticks(y, 1);
        due("one is sent, five and the order are queued", y.of(0, 0, SENT) * 10 + y.of(0, 0, QUEUED), 16);
        no("an order counts", y.submit(0, 0, 7));
        ticks(y, 1);
        yes("two are sent", y.submit(0, 0, 7));
    }

    private static void refusedButChosen() {
        part = "SUBMITTING: otherwise refused (the link stays as it was chosen)";
        ThreeLinkPair x = serving(0);
        submitAll(x, 0, 0, 1, 2, 3, 4, 5, 6);
        due("link of class 2 before", x.link(0, 2), 2);
        no("submit", x.submit(0, 2, 7));
        due("link of class 2", x.link(0, 2), 0);
        due("link of class 1", x.link(0, 1), 1);
    }

    // TO SAY an order or an answer

    private static void toSay() {
        sayOnTheLeastServing();
        sayOnOneThatIsNotOpen();
        sayAnAnswerOnTheLeastServing();
        sayWithoutABound();
    }

    private static void sayOnTheLeastServing() {
        part = "TO SAY: it is queued on the SERVING link with the least number";
        int[][] serve = {{0, 1, 2}, {0, 1, 2}, {0, 1, 2}, {0, 1}, {0, 2}, {1, 2}, {1, 2}};
        int[] falls = {0, 1, 2, 0, 0, 1, 2};
        int[] says = {1, 0, 0, 1, 2, 2, 1};
        for (int i = 0; i < falls.length; i++) {
            ThreeLinkPair x = serving(serve[i]);
            x.stop(falls[i], 0);
            ticks(x, 1);
            for (int link = 0; link < 3; link++) {
                due("on link " + link + " of row " + i, underWay(x, link, 0), link == says[i] ? 1 : 0);
            }
        }
    }

    private static void sayOnOneThatIsNotOpen() {
        part = "TO SAY: the SERVING link with the least number, open or not";
        ThreeLinkPair x = serving(0);
        stopBoth(x, 0);
        startBoth(x, 0, 1, 2);
        ticks(x, 8);
        due("the order about link 0 goes by link 0", underWay(x, 0, 0), 1);
        x.fault(0, 0, LOSE, 1);
        x.stop(1, 0);
        ticks(x, 1);
        due("link 0 is not open", x.changes(0, 0), 1);
        due("that about link 1 too", underWay(x, 0, 0), 2);
        due("none goes by link 2", underWay(x, 2, 0), 0);
    }

    private static void sayAnAnswerOnTheLeastServing() {
        part = "TO SAY an answer: on the SERVING link with the least number, not on that of the order";
        ThreeLinkPair x = serving(1, 2);
        startBoth(x, 0);
        ticks(x, 7);
        x.fault(0, 0, LOSE, 99);
        ticks(x, 1);
        due("link 0 at end 0", x.state(0, 0), READY);
        due("link 0 at end 1", x.state(0, 1), SERVING);
        x.stop(2, 0);
        ticks(x, 1);
        due("the order goes by link 1", underWay(x, 1, 0), 1);
        ticks(x, 1);
        due("the answer goes by link 0", underWay(x, 0, 1), 1);
        due("not by link 1", underWay(x, 1, 1), 0);
    }

    private static void sayWithoutABound() {
        part = "TO SAY: queued, though 6 are queued there";
        ThreeLinkPair x = serving(0, 1, 2);
        submitAll(x, 0, 0, 1, 2, 3, 4, 5, 6);
        x.stop(1, 0);
        x.stop(2, 0);
        ticks(x, 1);
        due("six and two orders, of which one is sent", x.of(0, 0, SENT) * 10 + x.of(0, 0, QUEUED), 17);
        ticks(x, 9);
        due("the orders came", x.changes(1, 0) + x.changes(2, 0), 0);
        takeAll(x, 1, 1, 2, 3, 4, 5, 6);
    }

    // A CHANGEOVER of a link begins

    private static void aChangeoverBegins() {
        keptInOrder();
        keptOrdersGoOn();
        keptAnew();
        saidAnew();
        waitsAnew();
        begunAgainIsSaidAgain();
        begunAgainHasTheTurnOfBefore();
        begunAgainHasTheWaitOfBefore();
        begunAgainPutsBehindWithoutNumbers();
        begunAgainStaysSettled();
    }

    private static void keptInOrder() {
        part = "A CHANGEOVER begins: what its side had sent and queued, in order, is KEPT";
        ThreeLinkPair x = serving(0, 1);
        x.fault(0, 1, LOSE, 99);
        submitAll(x, 0, 0, 1);
        submitAll(x, 0, 3, 2);
        submitAll(x, 0, 0, 3);
        submitAll(x, 0, 3, 4);
        ticks(x, 2);
        due("two are sent, two queued", x.of(0, 0, SENT) * 10 + x.of(0, 0, QUEUED), 22);
        x.stop(0, 0);
        ticks(x, 8);
        takeAll(x, 1, 1, message(3, 2), 3, message(3, 4));
    }

    private static void keptOrdersGoOn() {
        part = "A CHANGEOVER begins: an order that was sent is kept too, and said when it ends";
        ThreeLinkPair x = serving(0, 2);
        startBoth(x, 1);
        ticks(x, 7);
        x.fault(1, 1, LOSE, 99);
        ticks(x, 1);
        due("end 1 will say no order about link 1", x.state(1, 0) * 10 + x.state(1, 1), 10 * SERVING + READY);
        x.fault(0, 1, LOSE, 99);
        x.stop(1, 0);
        ticks(x, 1);
        due("the order about link 1 goes by link 0", x.of(0, 0, SENT), 1);
        x.stop(0, 0);
        ticks(x, 3);
        due("changes of link 0", x.changes(0, 0), 0);
        due("changes of link 1", x.changes(1, 0), 1);
        due("its order goes by link 2", underWay(x, 2, 0), 1);
        ticks(x, 2);
        due("it came and was answered", x.changes(1, 0), 0);
    }

    private static void keptAnew() {
        part = "A CHANGEOVER begins: what its side had sent and queued is KEPT, not what one before kept";
        ThreeLinkPair x = serving(0, 1);
        submitAll(x, 0, 0, 1, 2);
        stopBoth(x, 0);
        ticks(x, 8);
        due("they came by link 1", x.inbox(1), 2);
        startBoth(x, 0);
        ticks(x, 8);
        submitAll(x, 0, 0, 3);
        due("link", x.link(0, 0), 0);
        stopBoth(x, 0);
        ticks(x, 8);
        due("changes", x.changes(0, 0), 0);
        takeAll(x, 1, 1, 2, 3);
    }

    private static void saidAnew() {
        part = "A CHANGEOVER begins: it is not SAID, not SETTLED";
        ThreeLinkPair x = serving(0, 1);
        for (int turn = 1; turn <= 3; turn++) {
            x.fault(0, 1, LOSE, 1);
            x.stop(0, 0);
            due("not settled", x.changes(0, 0), 1);
            ticks(x, 1);
            due("its order is said", underWay(x, 1, 0), 1);
            due("not settled", x.changes(0, 0), 1);
            x.fault(0, 1, LOSE, 1);
            ticks(x, 1);
            due("by the order its other side fell", x.state(0, 1), OUT);
            ticks(x, 1);
            due("ended by the answer", x.changes(0, 0), 0);
            startBoth(x, 0);
            ticks(x, 8);
            bothAre(x, 0, SERVING);
        }
    }

    private static void waitsAnew() {
        part = "A CHANGEOVER begins: WAIT is 0";
        ThreeLinkPair x = serving(0);
        submitAll(x, 0, 0, 1);
        stopBoth(x, 0);
        ticks(x, 6);
        startBoth(x, 0);
        ticks(x, 9);
        due("the first one ended when its WAIT was 15", x.changes(0, 0), 0);
        ticks(x, 4);
        submitAll(x, 0, 0, 2);
        ticks(x, 1);
        stopBoth(x, 0);
        ticks(x, 4);
        startBoth(x, 1);
        ticks(x, 8);
        bothAre(x, 1, SERVING);
        x.fault(1, 0, LOSE, 99);
        x.fault(1, 1, LOSE, 99);
        ticks(x, 7);
        due("its WAIT is 19: lost", x.lost(), 0);
        due("changes", x.changes(0, 0), 1);
        ticks(x, 1);
        due("its WAIT is 20: lost", x.lost(), 1);
        due("changes", x.changes(0, 0), 0);
        takeAll(x, 1, 1);
    }

    private static void begunAgainIsSaidAgain() {
        part = "A CHANGEOVER that is under way already: it is not said";
        ThreeLinkPair x = serving(0);
        x.stop(0, 0);
        x.stop(0, 1);
        startBoth(x, 0);
        ticks(x, 8);
        due("the order goes by link 0", underWay(x, 0, 0), 1);
        stopBoth(x, 0);
        due("changes", x.changes(0, 0), 1);
        startBoth(x, 1);
        ticks(x, 8);
        due("it goes by link 1 again", underWay(x, 1, 0), 1);
        due("changes", x.changes(0, 0), 1);
    }

    private static void begunAgainHasTheTurnOfBefore() {
        part = "A CHANGEOVER that is under way already: all else of it stays (turn, what it heard, BACK)";
        ThreeLinkPair x = new ThreeLinkPair();
        serveUnheard(x);
        submitAll(x, 0, 0, 1, 2);
        submitAll(x, 1, 0, 3, 4);
        ticks(x, 2);
        due("one came at each end, without an answer", x.inbox(0) * 10 + x.inbox(1), 11);
        stopBoth(x, 0);
        startBoth(x, 0);
        ticks(x, 8);
        bothAre(x, 0, SERVING);
        stopBoth(x, 0);
        startBoth(x, 1);
        ticks(x, 9);
        due("the order told end 1 what came in turn 1", x.changes(0, 1), 0);
        due("that of end 1 is about a turn that end 0 did not hear", x.changes(0, 0), 1);
        ticks(x, 1);
        due("the answer told end 0 what came in turn 1", x.changes(0, 0), 0);
        ticks(x, 6);
        takeAll(x, 0, 3, 4);
        takeAll(x, 1, 1, 2);
        due("lost", x.lost(), 0);
    }

    /** Link 0 falls with a message sent, serves again for a tick, falls again; then link 1 serves, deaf. */
    private static ThreeLinkPair begunAgain() {
        ThreeLinkPair x = serving(0);
        submitAll(x, 0, 0, 1);
        ticks(x, 1);
        stopBoth(x, 0);
        startBoth(x, 0);
        ticks(x, 8);
        bothAre(x, 0, SERVING);
        due("its order is sent on link 0", x.of(0, 0, SENT), 1);
        stopBoth(x, 0);
        startBoth(x, 1);
        ticks(x, 8);
        bothAre(x, 1, SERVING);
        due("WAIT is 16 and its order is sent on link 1", x.of(1, 0, SENT), 1);
        x.fault(1, 0, LOSE, 99);
        x.fault(1, 1, LOSE, 99);
        return x;
    }

    private static void begunAgainHasTheWaitOfBefore() {
        part = "A CHANGEOVER that is under way already: all else of it stays (WAIT)";
        ThreeLinkPair x = begunAgain();
        ticks(x, 3);
        due("WAIT is 19: lost", x.lost(), 0);
        due("changes", x.changes(0, 0), 1);
        ticks(x, 1);
        due("WAIT is 20: lost", x.lost(), 1);
        due("changes", x.changes(0, 0), 0);
    }

    private static void begunAgainPutsBehindWithoutNumbers() {
        part = "A CHANGEOVER that is under way already: put behind that which is kept, without numbers";
        ThreeLinkPair x = begunAgain();
        submitAll(x, 0, 0, 2);
        ticks(x, 4);
        due("lost", x.lost(), 1);
        due("behind the order on link 1 that of link 0 goes on, then what was held", underWay(x, 1, 0), 3);
        x.fault(1, 0, 0, 0);
        x.fault(1, 1, 0, 0);
        ticks(x, 8);
        takeAll(x, 1, 2);
        due("nothing waits", underWay(x, 1, 0) + x.held(0), 0);
    }

    private static void begunAgainStaysSettled() {
        part = "A CHANGEOVER that is under way already: all else of it stays (settled)";
        ThreeLinkPair x = serving(2);
        stopBoth(x, 2);
        startBoth(x, 2);
        ticks(x, 3);
        startBoth(x, 0);
        ticks(x, 4);
        x.fault(2, 1, LOSE, 99);
        ticks(x, 1);
        due("link 2 serves at end 0 alone", x.state(2, 0) * 10 + x.state(2, 1), 10 * SERVING + READY);
        x.fault(2, 0, DAMAGE, 99);
        ticks(x, 3);
        due("BUCKET", x.of(2, 0, BUCKET), 3);
        bothAre(x, 0, SERVING);
        due("end 1 says its order by link 0", underWay(x, 0, 1), 1);
        due("changes", x.changes(2, 0), 1);
        ticks(x, 1);
        due("that came first, then link 2 fell once more", x.state(2, 0), OUT);
        due("it was settled still, and ended", x.changes(2, 0), 0);
    }

    // TO SETTLE it with a number

    private static void toSettle() {
        settleByTheAnswer();
        settleByTheOrder();
        settleRoundTheNumbers();
        settleWithoutNumbers();
        settleWithNone();
    }

    /**
     * After some messages with answers four are sent of which the first ones come, without an
     * answer, and two are queued; then one side falls, which the other one hears by the order alone.
     */
    private static void settles(int before, int come, int fallsAt) {
        ThreeLinkPair x = serving(0, 1);
        for (int i = 0; i < before; i++) {
            submitAll(x, 0, 0, i);
            ticks(x, 1);
        }
        ticks(x, 3);
        due("all were answered", x.of(0, 0, SENT), 0);
        submitAll(x, 0, 0, 11, 12, 13, 14);
        ticks(x, 1);
        x.fault(0, 0, LOSE, 99);
        ticks(x, come);
        x.fault(0, 1, LOSE, 99);
        ticks(x, 4 - come);
        submitAll(x, 0, 0, 15, 16);
        due("sent and queued", x.of(0, 0, SENT) * 10 + x.of(0, 0, QUEUED), 42);
        due("came", x.inbox(1), before + come);
        x.stop(0, fallsAt);
        ticks(x, fallsAt == 0 ? 3 : 2);
        bothAre(x, 0, OUT);
        due("changes", x.changes(0, 0), 0);
        int answers = fallsAt == 0 ? 0 : 1;
        due("what did not come goes on by link 1", underWay(x, 1, 0), answers + 6 - come);
        ticks(x, 8);
        for (int i = 0; i < before; i++) {
            due("take", x.take(1), i);
        }
        takeAll(x, 1, 11, 12, 13, 14, 15, 16);
        due("lost", x.lost(), 0);
    }

    private static void settleByTheAnswer() {
        part = "TO SETTLE: the ones from the first to the one with that number are given up (by an answer)";
        for (int come = 0; come <= 4; come++) {
            settles(0, come, 0);
        }
    }

    private static void settleByTheOrder() {
        part = "TO SETTLE: the ones from the first to the one with that number are given up (by an order)";
        for (int come = 0; come <= 4; come++) {
            settles(0, come, 1);
        }
    }

    private static void settleRoundTheNumbers() {
        part = "TO SETTLE: the numbers being modulo 8 (none if none has it)";
        for (int before = 1; before <= 9; before++) {
            for (int come = 0; come <= 4; come++) {
                settles(before, come, 0);
                settles(before, come, 1);
            }
        }
    }

    private static void settleWithoutNumbers() {
        part = "TO SETTLE: of those kept that have numbers (there is none)";
        ThreeLinkPair x = serving(0, 1);
        submitAll(x, 0, 0, 1, 2, 3);
        x.stop(0, 0);
        ticks(x, 8);
        takeAll(x, 1, 1, 2, 3);
        ThreeLinkPair y = serving(0, 1);
        y.stop(0, 0);
        ticks(y, 3);
        due("nothing was kept", y.changes(0, 0) * 10 + underWay(y, 1, 0), 0);
    }

    private static void settleWithNone() {
        part = "TO SETTLE with the number NONE: none has it";
        for (int before = 0; before <= 8; before++) {
            ThreeLinkPair x = serving(1);
            serveUnheard(x);
            for (int i = 0; i < before; i++) {
                submitAll(x, 1, 0, i);
                ticks(x, 1);
            }
            ticks(x, 3);
            due("all were answered", x.of(0, 1, SENT), 0);
            submitAll(x, 1, 0, 11, 12, 13, 14);
            ticks(x, 1);
            x.fault(0, 1, LOSE, 99);
            ticks(x, 4);
            due("all came, four without an answer", x.inbox(0) * 10 + x.of(0, 1, SENT), (before + 4) * 10 + 4);
            x.stop(0, 1);
            ticks(x, 12);
            due("lost", x.lost(), 0);
            due("end 0 remembers nothing for turn 2, so four come again", x.inbox(0), before + 8);
        }
    }

    // EACH TICK of a changeover that is under way

    private static void eachTick() {
        orderIsSaidOnce();
        orderWaitsForAServingLink();
        waitOfNineteenAndTwenty();
        settledInTheTwentiethTick();
        waitOfMoreThanTwenty();
        lostAreThoseWithNumbers();
        ordersDoNotCountAsLost();
        answersDoNotCountAsLost();
    }

    private static void orderIsSaidOnce() {
        part = "EACH TICK: when it is not said an order is said; it is said";
        ThreeLinkPair x = serving(0, 1);
        x.fault(0, 1, LOSE, 99);
        x.fault(1, 1, LOSE, 99);
        x.stop(0, 0);
        due("before the tick", underWay(x, 1, 0), 0);
        for (int i = 0; i < 8; i++) {
            ticks(x, 1);
            due("orders", underWay(x, 1, 0), 1);
        }
    }

    private static void orderWaitsForAServingLink() {
        part = "EACH TICK: an order is said when some link is SERVING there";
        ThreeLinkPair x = serving(0);
        submitAll(x, 0, 0, 1);
        stopBoth(x, 0);
        startBoth(x, 2);
        ticks(x, 7);
        bothAre(x, 2, READY);
        due("on link 2", underWay(x, 2, 0), 0);
        ticks(x, 1);
        bothAre(x, 2, SERVING);
        due("the order is sent in the same tick", x.of(2, 0, SENT), 1);
        ticks(x, 1);
        due("ended by the other end's order", x.changes(0, 0), 0);
        ticks(x, 3);
        takeAll(x, 1, 1);
    }

    /** One message is sent and one queued when link 0 falls; link 1 comes to serve at this WAIT. */
    private static ThreeLinkPair servingAtWait(int wait) {
        ThreeLinkPair x = serving(0);
        submitAll(x, 0, 0, 1, 2);
        ticks(x, 1);
        stopBoth(x, 0);
        ticks(x, wait - 8);
        startBoth(x, 1);
        ticks(x, 7);
        due("lost before", x.lost(), 0);
        bothAre(x, 1, READY);
        ticks(x, 1);
        bothAre(x, 1, SERVING);
        return x;
    }

    private static void waitOfNineteenAndTwenty() {
        part = "EACH TICK: WAIT at 20, when it is not settled, all that are kept with numbers are given up";
        ThreeLinkPair x = servingAtWait(12);
        x.fault(1, 0, LOSE, 99);
        ticks(x, 7);
        due("WAIT is 19: changes", x.changes(0, 0), 1);
        due("lost", x.lost(), 0);
        ticks(x, 1);
        due("WAIT is 20: changes", x.changes(0, 0), 0);
        due("lost", x.lost(), 1);
        ThreeLinkPair y = servingAtWait(20);
        due("it serves just when WAIT is 20: changes", y.changes(0, 0), 0);
        due("lost", y.lost(), 1);
        ThreeLinkPair z = servingAtWait(19);
        due("it serves when WAIT is 19: changes", z.changes(0, 0), 1);
        due("lost", z.lost(), 0);
    }

    private static void settledInTheTwentiethTick() {
        part = "EACH TICK: WAIT at 20, when it is not settled: it was settled in this tick";
        ThreeLinkPair x = servingAtWait(19);
        due("changes", x.changes(0, 0), 1);
        ticks(x, 1);
        due("ended by the other end's order", x.changes(0, 0), 0);
        due("lost", x.lost(), 0);
        ticks(x, 6);
        takeAll(x, 1, 1, 2);
    }

    private static void waitOfMoreThanTwenty() {
        part = "EACH TICK: at 20 and more, when some link is SERVING";
        ThreeLinkPair x = serving(0);
        submitAll(x, 0, 0, 1, 2);
        ticks(x, 1);
        stopBoth(x, 0);
        for (int wait = 1; wait <= 25; wait++) {
            ticks(x, 1);
            due("WAIT is " + wait + " and no link serves: changes", x.changes(0, 0), 1);
            due("lost", x.lost(), 0);
        }
        ThreeLinkPair y = servingAtWait(33);
        due("WAIT is 33: changes", y.changes(0, 0), 0);
        due("lost", y.lost(), 1);
        due("the order was said before, then what had no number", underWay(y, 1, 0), 2);
    }

    private static void lostAreThoseWithNumbers() {
        part = "EACH TICK: all that are kept with numbers are given up, each one counts as LOST";
        for (int sent = 0; sent <= 5; sent++) {
            ThreeLinkPair x = serving(0);
            x.fault(0, 0, LOSE, 99);
            submitAll(x, 0, 0, 1, 2, 3, 4, 5, 6);
            ticks(x, sent);
            due("sent", x.of(0, 0, SENT), sent);
            stopBoth(x, 0);
            ticks(x, 12);
            startBoth(x, 1);
            ticks(x, 8);
            due("lost", x.lost(), sent);
            int before = x.inbox(1);
            ticks(x, 12);
            due("those that were queued came", x.inbox(1) - before, 6 - sent);
            due("lost later", x.lost(), sent);
        }
    }

    private static void ordersDoNotCountAsLost() {
        part = "EACH TICK: but for orders and answers each one counts as LOST (an order)";
        ThreeLinkPair x = serving(0, 1);
        x.fault(0, 1, LOSE, 3);
        submitAll(x, 0, 0, 1);
        ticks(x, 1);
        x.stop(1, 0);
        ticks(x, 1);
        submitAll(x, 0, 0, 2);
        ticks(x, 1);
        due("a message, the order about link 1, a message", x.of(0, 0, SENT), 3);
        stopBoth(x, 0);
        ticks(x, 20);
        startBoth(x, 2);
        ticks(x, 8);
        due("changes", x.changes(0, 0) + x.changes(1, 0), 0);
        due("lost", x.lost(), 2);
    }

    private static void answersDoNotCountAsLost() {
        part = "EACH TICK: but for orders and answers each one counts as LOST (an answer)";
        ThreeLinkPair x = serving(0, 1);
        x.fault(0, 0, LOSE, 99);
        x.stop(1, 0);
        ticks(x, 2);
        due("the answer is sent", x.of(0, 1, SENT), 1);
        submitAll(x, 1, 0, 1);
        ticks(x, 1);
        due("a message too", x.of(0, 1, SENT), 2);
        stopBoth(x, 0);
        ticks(x, 20);
        startBoth(x, 2);
        ticks(x, 8);
        due("changes", x.changes(0, 1), 0);
        due("lost", x.lost(), 1);
    }

    // it ENDS

    private static void itEnds() {
        endsByItsOwnLink();
        endsNotWhileNoneIsOpen();
        keptAreQueuedWithoutABound();
        keptGoByTheChosenLinks();
        classesWithoutMessagesMove();
        classesMayStayOnThisLink();
        keptMayLeaveThisLinkThoughItIsOpen();
        heldOfAnotherLinkStay();
        heldGoBehindThoseKept();
    }

    private static void endsByItsOwnLink() {
        part = "it ENDS: this one being counted as no longer under way some link is open";
        ThreeLinkPair x = serving(0);
        submitAll(x, 0, 0, 1);
        stopBoth(x, 0);
        startBoth(x, 0);
        ticks(x, 8);
        bothAre(x, 0, SERVING);
        due("changes", x.changes(0, 0) * 10 + x.changes(0, 1), 11);
        ticks(x, 1);
        due("changes", x.changes(0, 0) * 10 + x.changes(0, 1), 0);
        due("link", x.link(0, 0), 0);
        ticks(x, 4);
        takeAll(x, 1, 1);
    }

    /** Both changeovers of end 0 are under way; that of link 0 is settled, but link 1 alone serves. */
    private static void endsNotWhileNoneIsOpen() {
        part = "it ENDS: when some link is open";
        ThreeLinkPair x = serving(0, 1);
        submitAll(x, 0, 0, 1);
        stopBoth(x, 0, 1);
        startBoth(x, 1);
        ticks(x, 9);
        bothAre(x, 1, SERVING);
        due("link 0 settled, link 1 not", x.changes(0, 0) * 10 + x.changes(1, 0), 21);
        yes("held while it is settled", x.submit(0, 0, 2));
        due("held", x.held(0), 1);
        ticks(x, 1);
        due("link 1 ended", x.changes(0, 0) * 10 + x.changes(1, 0), 20);
        ticks(x, 1);
        due("then link 0", x.changes(0, 0) * 10 + x.changes(1, 0), 0);
        ticks(x, 6);
        takeAll(x, 1, 1, 2);
    }

    private static void keptAreQueuedWithoutABound() {
        part = "it ENDS: each one kept, in order, is queued (here without a bound), so are those held";
        ThreeLinkPair x = serving(0, 1);
        x.fault(0, 1, LOSE, 99);
        submitAll(x, 0, 0, 1, 2, 3, 4, 5, 6);
        ticks(x, 5);
        submitAll(x, 0, 0, 7, 8, 9, 10, 11);
        x.stop(0, 0);
        submitAll(x, 0, 0, 12, 13, 14, 15, 16, 17, 18, 19);
        ticks(x, 3);
        due("one is sent on link 1, the others queued", x.of(1, 0, SENT) * 100 + x.of(1, 0, QUEUED), 118);
        no("so it is full", x.submit(0, 0, 20));
        due("held", x.held(0), 0);
        ticks(x, 19);
        takeAll(x, 1, 1, 2, 3, 4, 5, 6, 7, 8, 9, 10, 11, 12, 13, 14, 15, 16, 17, 18, 19);
    }

    private static void keptGoByTheChosenLinks() {
        part = "it ENDS: for another one its class's link becomes the one that is chosen for it";
        ThreeLinkPair x = serving(0);
        startBoth(x, 1, 2);
        x.fault(0, 1, LOSE, 99);
        submitAll(x, 0, 2, 1);
        submitAll(x, 0, 0, 2);
        submitAll(x, 0, 1, 3);
        submitAll(x, 0, 3, 4);
        ticks(x, 8);
        for (int kind = 0; kind < 4; kind++) {
            due("link before of class " + kind, x.link(0, kind), 0);
        }
        x.stop(0, 0);
        submitAll(x, 0, 2, 5);
        submitAll(x, 0, 1, 6);
        ticks(x, 3);
        due("changes", x.changes(0, 0), 0);
        int[] links = {1, 1, 2, 1};
        for (int kind = 0; kind < 4; kind++) {
            due("link of class " + kind, x.link(0, kind), links[kind]);
        }
        due("on link 1 three and a held one", underWay(x, 1, 0), 4);
        due("on link 2 one and a held one", underWay(x, 2, 0), 2);
        ticks(x, 6);
        takeAll(x, 1, 2, message(2, 1), message(1, 3), message(2, 5), message(3, 4), message(1, 6));
    }

    private static void classesWithoutMessagesMove() {
        part = "it ENDS: then all classes whose link still is this one get the one that is chosen for them";
        ThreeLinkPair x = serving(0);
        submitAll(x, 0, 1, 1);
        startBoth(x, 1);
        ticks(x, 8);
        due("class 1 has nothing on link 0", underWay(x, 0, 0), 0);
        due("but its link is that", x.link(0, 1), 0);
        x.stop(0, 0);
        ticks(x, 3);
        due("changes", x.changes(0, 0), 0);
        due("class 0", x.link(0, 0), 1);
        due("class 1", x.link(0, 1), 1);
        due("class 2, whose link was another one", x.link(0, 2), 2);
        due("class 3", x.link(0, 3), 1);
    }

    private static void classesMayStayOnThisLink() {
        part = "it ENDS: the one that is chosen may be this one";
        ThreeLinkPair x = serving(0);
        submitAll(x, 0, 1, 1);
        ticks(x, 3);
        due("class 1 before", x.link(0, 1), 0);
        stopBoth(x, 0);
        startBoth(x, 0, 1);
        ticks(x, 9);
        due("changes", x.changes(0, 0), 0);
        due("class 0", x.link(0, 0), 0);
        due("class 1", x.link(0, 1), 1);
        due("class 3", x.link(0, 3), 0);
    }

    private static void keptMayLeaveThisLinkThoughItIsOpen() {
        part = "it ENDS: for another one its class's link becomes the one that is chosen (this one is open)";
        ThreeLinkPair x = serving(0);
        submitAll(x, 0, 1, 1);
        submitAll(x, 0, 0, 2);
        stopBoth(x, 0);
        startBoth(x, 0, 1);
        ticks(x, 9);
        due("changes", x.changes(0, 0), 0);
        due("class 0", x.link(0, 0), 0);
        due("class 1", x.link(0, 1), 1);
        due("on link 1", underWay(x, 1, 0), 1);
        ticks(x, 4);
        takeAll(x, 1, message(1, 1), 2);
    }

    private static void heldOfAnotherLinkStay() {
        part = "it ENDS: then those held whose class's link was this one before all that";
        ThreeLinkPair x = serving(0, 1, 2);
        x.stop(0, 0);
        x.stop(1, 0);
        submitAll(x, 0, 1, 1);
        submitAll(x, 0, 0, 2);
        submitAll(x, 0, 1, 3);
        submitAll(x, 0, 3, 4);
        ticks(x, 3);
        due("link 0 ended, link 1 not", x.changes(0, 0) * 10 + x.changes(1, 0), 1);
        due("held", x.held(0), 2);
        due("class 1", x.link(0, 1), 1);
        due("class 3", x.link(0, 3), 2);
        ticks(x, 1);
        due("both ended", x.changes(0, 0) * 10 + x.changes(1, 0), 0);
        due("held", x.held(0), 0);
        due("class 1", x.link(0, 1), 2);
        ticks(x, 8);
        takeAll(x, 1, 2, message(3, 4), message(1, 1), message(1, 3));
    }

    private static void heldGoBehindThoseKept() {
        part = "it ENDS: before all that (before the first of those kept), queued in order";
        ThreeLinkPair x = serving(0, 1);
        submitAll(x, 0, 0, 1);
        submitAll(x, 0, 3, 2);
        x.stop(0, 0);
        submitAll(x, 0, 3, 3);
        submitAll(x, 0, 0, 4);
        submitAll(x, 0, 3, 5);
        ticks(x, 3);
        due("the links of kept ones became others, yet none is held any more", x.held(0), 0);
        ticks(x, 6);
        takeAll(x, 1, 1, message(3, 2), message(3, 3), 4, message(3, 5));
    }

    // AN ORDER IS TAKEN

    private static void anOrderIsTaken() {
        orderLetsAServingSideFall();
        orderLeavesASideThatHeardAnother();
        orderLeavesASideThatIsNotServing();
        orderIsAnsweredWithNone();
        orderIsAnsweredByAnotherTurnsMemory();
        orderDoesNotSettleWhatHeardAnother();
        ordersDoNotComeIntoTheInbox();
    }

    private static void orderLetsAServingSideFall() {
        part = "AN ORDER IS TAKEN: when its side of l is SERVING and heard t, that falls first";
        ThreeLinkPair x = serving(0, 1);
        x.fault(0, 1, LOSE, 99);
        x.stop(0, 0);
        ticks(x, 1);
        due("state", x.state(0, 1), SERVING);
        ticks(x, 1);
        due("state", x.state(0, 1), OUT);
        due("its changeover began, was settled and ended", x.changes(0, 1), 0);
        due("so its classes moved", x.link(1, 0), 1);
        ticks(x, 1);
        due("it said OUT, the other side stays OUT", x.state(0, 0), OUT);
    }

    private static void orderLeavesASideThatHeardAnother() {
        part = "AN ORDER IS TAKEN: a SERVING side that heard another turn stays";
        ThreeLinkPair x = serving(0);
        stopBoth(x, 0);
        startBoth(x, 0);
        ticks(x, 8);
        due("orders about turn 1 are sent", x.of(0, 0, SENT) * 10 + x.of(0, 1, SENT), 11);
        due("heard", x.of(0, 0, HEARD) * 10 + x.of(0, 1, HEARD), 22);
        ticks(x, 1);
        due("they came", x.of(0, 0, BACK) * 10 + x.of(0, 1, BACK), 0);
        bothAre(x, 0, SERVING);
        ticks(x, 5);
        bothAre(x, 0, SERVING);
    }

    /** Link 0 serves at end 0 alone, end 1 being READY and deaf; link 1 serves at both. */
    private static ThreeLinkPair readyAtEnd1() {
        ThreeLinkPair x = serving(1);
        startBoth(x, 0);
        ticks(x, 7);
        x.fault(0, 1, LOSE, 99);
        ticks(x, 1);
        due("link 0", x.state(0, 0) * 10 + x.state(0, 1), 10 * SERVING + READY);
        return x;
    }

    private static void orderLeavesASideThatIsNotServing() {
        part = "AN ORDER IS TAKEN: when its side of l is SERVING (it is READY)";
        ThreeLinkPair x = readyAtEnd1();
        x.stop(0, 0);
        ticks(x, 2);
        due("the order came", x.of(1, 1, BACK), 0);
        due("state", x.state(0, 1), READY);
        due("no changeover is under way there", x.changes(0, 1), 0);
        ticks(x, 1);
        due("it was answered", x.changes(0, 0), 0);
        due("state", x.state(0, 1), READY);
    }

    private static void orderIsAnsweredWithNone() {
        part = "AN ORDER IS TAKEN: an answer with the number NONE when it remembers none";
        ThreeLinkPair x = readyAtEnd1();
        submitAll(x, 0, 0, 1, 2, 3);
        ticks(x, 2);
        x.stop(0, 0);
        ticks(x, 3);
        due("settled, and ended", x.changes(0, 0), 0);
        due("none was given up", underWay(x, 1, 0), 3);
        ticks(x, 4);
        takeAll(x, 1, 1, 2, 3);
        due("lost", x.lost(), 0);
    }

    /**
     * End 1 fell in turn 1 with BACK 0. Of turn 2 it remembers nothing: an answer with what it
     * remembers for turn 1 would give up what did not come.
     */
    private static void orderIsAnsweredByAnotherTurnsMemory() {
        part = "AN ORDER IS TAKEN: the BACK that its side of l remembers for t, not for another turn";
        ThreeLinkPair x = serving(0, 1);
        submitAll(x, 0, 0, 1);
        ticks(x, 4);
        stopBoth(x, 0);
        ticks(x, 4);
        due("changes", x.changes(0, 0) + x.changes(0, 1), 0);
        startBoth(x, 0);
        ticks(x, 7);
        x.fault(0, 1, LOSE, 99);
        ticks(x, 1);
        due("link 0", x.state(0, 0) * 10 + x.state(0, 1), 10 * SERVING + READY);
        submitAll(x, 0, 0, 2, 3);
        due("link of class 0", x.link(0, 0), 0);
        ticks(x, 2);
        x.stop(0, 0);
        ticks(x, 8);
        due("lost", x.lost(), 0);
        takeAll(x, 1, 1, 2, 3);
    }

    private static void orderDoesNotSettleWhatHeardAnother() {
        part = "AN ORDER IS TAKEN: when a changeover of l is under way, and it heard t, it is settled";
        ThreeLinkPair x = serving(1);
        serveUnheard(x);
        stopBoth(x, 0);
        ticks(x, 2);
        due("both orders came", x.of(1, 0, BACK) * 10 + x.of(1, 1, BACK), 0);
        due("end 1 heard of turn 1: settled, and ended", x.changes(0, 1), 0);
        due("end 0 did not hear of turn 2", x.changes(0, 0), 1);
        ticks(x, 1);
        due("it is settled by its answer", x.changes(0, 0), 0);
    }

    private static void ordersDoNotComeIntoTheInbox() {
        part = "ANOTHER MESSAGE that is taken comes into the end's INBOX";
        ThreeLinkPair x = serving(0, 1);
        stopBoth(x, 0);
        ticks(x, 6);
        due("orders and answers came", x.of(1, 0, BACK) * 10 + x.of(1, 1, BACK), 11);
        due("inbox", x.inbox(0) + x.inbox(1), 0);
    }

    // AN ANSWER IS TAKEN

    private static void anAnswerIsTaken() {
        answerWhenNoneIsUnderWay();
        answerSettles();
        answerAboutAnotherTurn();
    }

    private static void answerWhenNoneIsUnderWay() {
        part = "AN ANSWER IS TAKEN: when a changeover of l is under way (there is none)";
        ThreeLinkPair x = serving(0, 1);
        submitAll(x, 0, 0, 1);
        stopBoth(x, 0);
        ticks(x, 2);
        due("both ended by the orders", x.changes(0, 0) + x.changes(0, 1), 0);
        startBoth(x, 0);
        ticks(x, 2);
        due("the answers came", x.changes(0, 0) + x.changes(0, 1), 0);
        bothAre(x, 1, SERVING);
        takeAll(x, 1, 1);
    }

    private static void answerSettles() {
        part = "AN ANSWER IS TAKEN: not settled, and the turn kept with it is t: it is settled";
        ThreeLinkPair x = readyAtEnd1();
        submitAll(x, 0, 0, 1);
        x.stop(0, 0);
        ticks(x, 2);
        due("no answer yet", x.changes(0, 0), 1);
        ticks(x, 1);
        due("the answer", x.changes(0, 0), 0);
    }

    /**
     * The order of end 0 about turn 1 of link 2 is late: when its answer comes, link 2 has served
     * and fallen once more. (The first changeover was settled by the order of end 1.)
     */
    private static void answerAboutAnotherTurn() {
        part = "AN ANSWER IS TAKEN: the turn kept with it is t (it is not)";
        ThreeLinkPair x = serving(1, 2);
        x.stop(2, 0);
        ticks(x, 1);
        x.fault(1, 1, LOSE, 8);
        x.start(2, 0);
        ticks(x, 1);
        due("link 2 at end 1", x.state(2, 1), OUT);
        x.start(2, 1);
        ticks(x, 1);
        due("ended by the order of end 1", x.changes(2, 0), 0);
        ticks(x, 7);
        bothAre(x, 2, SERVING);
        submitAll(x, 0, 2, 1);
        due("its link", x.link(0, 2), 2);
        x.fault(2, 1, LOSE, 99);
        ticks(x, 2);
        due("the order about turn 1 came", x.of(1, 1, BACK), 0);
        due("link 2 at end 1", x.state(2, 1), SERVING);
        x.stop(2, 0);
        due("the answer is sent", x.of(1, 1, SENT), 1);
        ticks(x, 1);
        due("it came", x.of(1, 0, BACK), 1);
        due("it settles nothing", x.changes(2, 0), 1);
        ticks(x, 2);
        due("the answer about turn 2 does", x.changes(2, 0), 0);
        ticks(x, 3);
        takeAll(x, 1, message(2, 1));
    }

    // A TICK

    private static void aTick() {
        linksOneAfterTheOther();
        agesBeforeChangeovers();
        changeoversOneAfterTheOther();
        sendsWhatWasSaid();
    }

    private static void linksOneAfterTheOther() {
        part = "A TICK: first for each link 0, 1, 2 the unit comes";
        ThreeLinkPair x = serving(0, 1, 2);
        submitAll(x, 0, 2, 1);
        submitAll(x, 0, 1, 2);
        submitAll(x, 0, 0, 3);
        ticks(x, 2);
        takeAll(x, 1, 3, message(1, 2), message(2, 1));
    }

    private static void agesBeforeChangeovers() {
        part = "A TICK: then all sides age; then a changeover's tick";
        ThreeLinkPair x = serving(0, 1);
        submitAll(x, 0, 0, 1);
        x.fault(0, 0, LOSE, 99);
        ticks(x, 12);
        due("state", x.state(0, 0), SERVING);
        ticks(x, 1);
        due("it fell by IDLE", x.state(0, 0), OUT);
        due("its order is sent in the same tick", x.of(1, 0, SENT), 1);
    }

    /** The changeover of link 1 is settled by its WAIT, and waits for link 0 to be open. */
    private static void changeoversOneAfterTheOther() {
        part = "A TICK: for end 0 and its links 0, 1, 2, and then for end 1, a changeover's tick";
        ThreeLinkPair x = serving(0, 1);
        x.fault(0, 0, LOSE, 3);
        x.fault(0, 1, LOSE, 3);
        stopBoth(x, 1);
        ticks(x, 3);
        stopBoth(x, 0);
        ticks(x, 9);
        startBoth(x, 0);
        ticks(x, 8);
        bothAre(x, 0, SERVING);
        for (int end = 0; end < 2; end++) {
            due("link 0 is not settled, link 1 is", x.changes(0, end) * 10 + x.changes(1, end), 12);
        }
        ticks(x, 1);
        for (int end = 0; end < 2; end++) {
            due("link 0 ended, then link 1", x.changes(0, end) * 10 + x.changes(1, end), 0);
        }
    }

    private static void sendsWhatWasSaid() {
        part = "A TICK: then all sides send";
        ThreeLinkPair x = serving(0, 1);
        x.stop(0, 0);
        ticks(x, 1);
        due("the order is sent in the tick in which it was said", x.of(1, 0, SENT), 1);
        due("queued", x.of(1, 0, QUEUED), 0);
        ticks(x, 1);
        due("the answer too", x.of(1, 1, SENT), 1);
        due("queued", x.of(1, 1, QUEUED), 0);
    }
}
