import java.util.NoSuchElementException;

/** The boundary cases that the promises name: refused calls, the least and the most, empty and full. */
public final class CallEdgesTest extends Checks {
    private static final int[] NO_LINKS = {-1, 3, Integer.MIN_VALUE, Integer.MAX_VALUE};
    private static final int[] NO_ENDS = {-1, 2, Integer.MIN_VALUE, Integer.MAX_VALUE};
    private static final int[] NO_CLASSES = {-1, 4, Integer.MIN_VALUE, Integer.MAX_VALUE};
    private static final int[] NO_WHATS = {-1, 13, Integer.MIN_VALUE, Integer.MAX_VALUE};
    private static final int[] NO_HOWS = {-1, 3, Integer.MIN_VALUE, Integer.MAX_VALUE};
    private static final int[] NO_NUMBERS = {-1, 100, Integer.MIN_VALUE, Integer.MAX_VALUE};

    private interface OnSide {
        void call(ThreeLinkPair x, int link, int end);
    }

    private interface OnClass {
        void call(ThreeLinkPair x, int end, int kind);
    }

    private interface OnEnd {
        void call(ThreeLinkPair x, int end);
    }

    public static void main(String[] args) {
        newSidesDoNotSayOut();
        newSidesHaveTurnZero();
        startOfEachState();
        startRefused();
        stopOfEachState();
        stopOfAnOutSideSaysNothing();
        stopRefused();
        faultOfNone();
        faultOfOne();
        faultOfTheMost();
        faultWithHowNone();
        faultInPlaceOfTheOneBefore();
        faultWaitsForUnits();
        faultIsOfOneSide();
        faultRefused();
        faultFirstOneFirst();
        submitRefused();
        submitEdgesOfWords();
        tickCountsNoneAndAll();
        tickCountsNeitherLostNorDamaged();
        tickCountsWhatComesToAnOutSide();
        stateRefused();
        ofEdges();
        ofRefused();
        linkAtFirst();
        linkRefused();
        changesOfEachSort();
        changesRefused();
        heldFromNoneToEight();
        heldRefused();
        inboxHasNoBound();
        inboxRefused();
        takeOfNone();
        takeFirstOneFirst();
        takeRefused();
        lostAtBothEnds();
        callsToTheLastOne();
        finish("every edge of the calls holds");
    }

    /** A run after which every sort of thing is under way: the same one each time. */
    private static ThreeLinkPair busy() {
        ThreeLinkPair x = serving(0, 1);
        submitAll(x, 0, 0, 1, 2, 3);
        submitAll(x, 1, 1, 4, 5);
        x.start(2, 0);
        ticks(x, 2);
        x.fault(1, 0, DAMAGE, 2);
        x.fault(2, 1, LOSE, 2);
        x.stop(0, 1);
        submitAll(x, 1, 0, 6);
        return x;
    }

    /** Refused calls change nothing, now or later: all is as on an object without them. */
    private static void unchanged(ThreeLinkPair x) {
        ThreeLinkPair twin = busy();
        same("after refused calls", allShown(x), allShown(twin));
        ticks(x, 3);
        ticks(twin, 3);
        same("three ticks after refused calls", allShown(x), allShown(twin));
    }

    private static void refusesSides(OnSide on) {
        ThreeLinkPair x = busy();
        for (int link : NO_LINKS) {
            noSuchIndex("link " + link, () -> on.call(x, link, 0));
            noSuchIndex("link " + link, () -> on.call(x, link, 1));
            noSuchIndex("link " + link + " and no end", () -> on.call(x, link, 2));
        }
        for (int end : NO_ENDS) {
            for (int link = 0; link < 3; link++) {
                int there = link;
                noSuchIndex("end " + end, () -> on.call(x, there, end));
            }
        }
        unchanged(x);
    }

    private static void refusesClasses(OnClass on) {
        ThreeLinkPair x = busy();
        for (int kind : NO_CLASSES) {
            noSuchIndex("class " + kind, () -> on.call(x, 0, kind));
            noSuchIndex("class " + kind, () -> on.call(x, 1, kind));
            noSuchIndex("class " + kind + " and no end", () -> on.call(x, -1, kind));
        }
        for (int end : NO_ENDS) {
            noSuchIndex("end " + end, () -> on.call(x, end, 0));
            noSuchIndex("end " + end, () -> on.call(x, end, 3));
        }
        unchanged(x);
    }

    private static void refusesEnds(OnEnd on) {
        ThreeLinkPair x = busy();
        for (int end : NO_ENDS) {
            noSuchIndex("end " + end, () -> on.call(x, end));
        }
        unchanged(x);
    }

    private static void newSidesDoNotSayOut() {
        part = "promise 1: all sides are OUT (and don't say so)";
        ThreeLinkPair x = new ThreeLinkPair();
        due("the first tick", x.tick(), 0);
        due("the second tick", x.tick(), 0);
        ThreeLinkPair y = new ThreeLinkPair();
        for (int link = 0; link < 3; link++) {
            bothAre(y, link, OUT);
        }
        due("no OUT comes", y.tick() + y.tick(), 0);
    }

    private static void newSidesHaveTurnZero() {
        part = "promise 1: their turns 0; nothing is under way";
        ThreeLinkPair x = new ThreeLinkPair();
        for (int end = 0; end < 2; end++) {
            for (int link = 0; link < 3; link++) {
                due("turn", x.of(link, end, TURN), 0);
                due("changes", x.changes(link, end), 0);
                due("under way", underWay(x, link, end), 0);
            }
            due("held", x.held(end), 0);
            due("inbox", x.inbox(end), 0);
        }
        due("lost", x.lost(), 0);
    }

    private static void startOfEachState() {
        part = "promise 2: a side that is OUT is SEEKING, its turn 1 more: true; false in another state";
        ThreeLinkPair x = new ThreeLinkPair();
        yes("start of an OUT side", x.start(2, 0));
        yes("start of its other side", x.start(2, 1));
        int[] states = {SEEKING, PROVING, READY, SERVING};
        int[] waits = {0, 2, 5, 1};
        for (int i = 0; i < states.length; i++) {
            ticks(x, waits[i]);
            int age = x.of(2, 0, AGE);
            due("state", x.state(2, 0), states[i]);
            no("start in state " + states[i], x.start(2, 0));
            due("state after it", x.state(2, 0), states[i]);
            due("turn after it", x.of(2, 0, TURN), 1);
            due("age after it", x.of(2, 0, AGE), age);
        }
        x.stop(2, 0);
        yes("start of an OUT side again", x.start(2, 0));
        due("turn", x.of(2, 0, TURN), 2);
        due("turn of the other side", x.of(2, 1, TURN), 1);
    }

    private static void startRefused() {
        part = "promise 2: IndexOutOfBoundsException when there is no such link or end";
        refusesSides((x, link, end) -> x.start(link, end));
    }

    private static void stopOfEachState() {
        part = "promise 3: a side that is not OUT falls: true; false when it is";
        int[] states = {OUT, SEEKING, PROVING, READY, SERVING};
        int[] waits = {0, 1, 2, 7, 8};
        for (int i = 0; i < states.length; i++) {
            ThreeLinkPair x = new ThreeLinkPair();
            if (states[i] != OUT) {
                startBoth(x, 1);
            }
            ticks(x, waits[i]);
            bothAre(x, 1, states[i]);
            due("stop in state " + states[i], x.stop(1, 1) ? 1 : 0, states[i] == OUT ? 0 : 1);
            due("state after it", x.state(1, 1), OUT);
            due("the other side", x.state(1, 0), states[i]);
            no("stop again", x.stop(1, 1));
        }
    }

    private static void stopOfAnOutSideSaysNothing() {
        part = "promise 3: false when it is OUT, and nothing is said";
        ThreeLinkPair x = new ThreeLinkPair();
        no("stop", x.stop(0, 0));
        due("ticks", x.tick() + x.tick(), 0);
        x.start(0, 0);
        x.stop(0, 0);
        x.tick();
        no("stop when it has said OUT", x.stop(0, 0));
        due("OUT comes once", x.tick() * 10 + x.tick(), 10);
    }

    private static void stopRefused() {
        part = "promise 3: exception as for start";
        refusesSides((x, link, end) -> x.stop(link, end));
    }

    private static ThreeLinkPair seekingAlone() {
        ThreeLinkPair x = new ThreeLinkPair();
        x.start(0, 0);
        x.tick();
        return x;
    }

    private static void faultOfNone() {
        part = "promise 4: the next n units, n being 0";
        ThreeLinkPair x = seekingAlone();
        x.fault(0, 1, LOSE, 0);
        due("a unit comes", x.tick(), 1);
        x.fault(0, 1, DAMAGE, 0);
        due("a unit comes", x.tick(), 1);
    }

    private static void faultOfOne() {
        part = "promise 4: the next n units, n being 1";
        ThreeLinkPair x = seekingAlone();
        x.fault(0, 1, LOSE, 1);
        due("lost, then it comes", x.tick() * 10 + x.tick(), 1);
        x.fault(0, 1, DAMAGE, 1);
        due("damaged, then it comes", x.tick() * 10 + x.tick(), 1);
    }

    private static void faultOfTheMost() {
        part = "promise 4: the next n units, n being 99";
        ThreeLinkPair x = serving(0);
        x.fault(0, 1, LOSE, 99);
        int came = 0;
        for (int i = 0; i < 99; i++) {
            came += x.tick();
        }
        due("only those to the other side came", came, 99);
        due("the hundredth unit comes", x.tick(), 2);
        ThreeLinkPair y = serving(0);
        y.fault(0, 1, LOSE, 98);
        ticks(y, 98);
        due("with n 98 the next but 98 comes", y.tick(), 2);
        ThreeLinkPair z = seekingAlone();
        z.fault(0, 1, DAMAGE, 99);
        int damagedCame = 0;
        for (int turn = 0; turn < 8; turn++) {
            for (int i = 0; i < 13; i++) {
                damagedCame += z.tick();
            }
            z.stop(0, 0);
            z.start(0, 0);
        }
        due("of 104 units 99 came damaged", damagedCame, 5);
    }

    private static void faultWithHowNone() {
        part = "promise 4: with how 0 none";
        ThreeLinkPair x = seekingAlone();
        x.fault(0, 1, 0, 99);
        due("a unit comes", x.tick(), 1);
        x.fault(0, 1, LOSE, 99);
        x.fault(0, 1, 0, 99);
        due("a unit comes again", x.tick(), 1);
        x.fault(0, 1, DAMAGE, 99);
        x.fault(0, 1, 0, 0);
        due("and again", x.tick(), 1);
    }

    private static void faultInPlaceOfTheOneBefore() {
        part = "promise 4: in place of what was said of it before";
        ThreeLinkPair x = seekingAlone();
        x.fault(0, 1, LOSE, 99);
        x.fault(0, 1, LOSE, 1);
        due("one lost, not a hundred", x.tick() * 10 + x.tick(), 1);
        x.fault(0, 1, LOSE, 2);
        x.fault(0, 1, LOSE, 0);
        due("none", x.tick(), 1);
        ThreeLinkPair y = serving(0);
        y.fault(0, 1, LOSE, 3);
        y.tick();
        y.fault(0, 1, DAMAGE, 1);
        y.tick();
        due("damaged in place of lost", y.of(0, 1, BUCKET), 1);
        due("then none", y.tick(), 2);
        y.fault(0, 1, DAMAGE, 3);
        y.fault(0, 1, LOSE, 1);
        y.tick();
        due("lost in place of damaged", y.of(0, 1, BUCKET), 1);
        due("then none", y.tick(), 2);
    }

    private static void faultWaitsForUnits() {
        part = "promise 4: the next n units that would come";
        ThreeLinkPair x = new ThreeLinkPair();
        x.fault(0, 1, LOSE, 2);
        ticks(x, 5);
        x.start(0, 0);
        due("nothing was sent", x.tick(), 0);
        due("two are lost", x.tick() + x.tick(), 0);
        due("the third one comes", x.tick(), 1);
        x.fault(0, 1, LOSE, 1);
        x.start(0, 1);
        due("lost though the side was started since", x.tick(), 0);
        due("it goes on SEEKING", x.state(0, 1), SEEKING);
    }

    private static void faultIsOfOneSide() {
        part = "promise 4: units that would come to a side";
        for (int link = 0; link < 3; link++) {
            for (int end = 0; end < 2; end++) {
                ThreeLinkPair x = new ThreeLinkPair();
                startBoth(x, 0, 1, 2);
                x.tick();
                x.fault(link, end, LOSE, 1);
                due("one of six is lost", x.tick(), 5);
                due("that to the side", x.state(link, end), SEEKING);
                due("not that of its other side", x.state(link, 1 - end), PROVING);
            }
        }
    }

    private static void faultRefused() {
        part = "promise 4: IllegalArgumentException when how is not 0 .. 2 or n not 0 .. 99";
        ThreeLinkPair x = busy();
        Class<?> argument = IllegalArgumentException.class;
        for (int how : NO_HOWS) {
            refused("how " + how, argument, () -> x.fault(1, 0, how, 1));
        }
        for (int n : NO_NUMBERS) {
            refused("n " + n, argument, () -> x.fault(2, 1, LOSE, n));
            refused("n " + n + " with how 2", argument, () -> x.fault(2, 1, DAMAGE, n));
            refused("n " + n + " with how 0", argument, () -> x.fault(1, 0, 0, n));
        }
        unchanged(x);
    }

    private static void faultFirstOneFirst() {
        part = "promise 4: IndexOutOfBoundsException as for start; the first one first";
        refusesSides((x, link, end) -> x.fault(link, end, 0, 0));
        refusesSides((x, link, end) -> x.fault(link, end, 3, 0));
        refusesSides((x, link, end) -> x.fault(link, end, 1, 100));
        refusesSides((x, link, end) -> x.fault(link, end, -1, -1));
    }

    private static void submitRefused() {
        part = "promise 5: IndexOutOfBoundsException when there is no such end or class";
        refusesClasses((x, end, kind) -> x.submit(end, kind, 7));
    }

    private static void submitEdgesOfWords() {
        part = "promise 5: a word is an int; promise 13: its word as a number without sign";
        ThreeLinkPair x = serving(0);
        submitAll(x, 0, 0, 0, -1);
        submitAll(x, 0, 3, Integer.MAX_VALUE, Integer.MIN_VALUE, -1, 0);
        ticks(x, 7);
        takeAll(x, 1, 0L, 0xFFFFFFFFL, 0x37FFFFFFFL, 0x380000000L, 0x3FFFFFFFFL, 0x300000000L);
    }

    private static void tickCountsNoneAndAll() {
        part = "promise 6: how many units came";
        ThreeLinkPair x = new ThreeLinkPair();
        due("none was sent", x.tick(), 0);
        startBoth(x, 0, 1, 2);
        due("none was sent yet", x.tick(), 0);
        due("one to each side", x.tick(), 6);
        stopBoth(x, 0, 1, 2);
        due("those that were sent before come to OUT sides", x.tick(), 6);
        due("then OUT of each", x.tick(), 6);
        due("then none", x.tick(), 0);
    }

    private static void tickCountsNeitherLostNorDamaged() {
        part = "promise 6: that were not damaged";
        ThreeLinkPair x = serving(0, 1, 2);
        x.fault(0, 0, LOSE, 1);
        due("one is lost", x.tick(), 5);
        x.fault(0, 0, DAMAGE, 1);
        due("one comes damaged", x.tick(), 5);
        for (int link = 0; link < 3; link++) {
            x.fault(link, 0, LOSE, 1);
            x.fault(link, 1, DAMAGE, 1);
        }
        due("all of them", x.tick(), 0);
        due("none of them", x.tick(), 6);
    }

    private static void tickCountsWhatComesToAnOutSide() {
        part = "promise 6: a unit comes to an OUT side too";
        ThreeLinkPair x = new ThreeLinkPair();
        x.start(2, 1);
        x.tick();
        due("SEEK", x.tick(), 1);
        x.fault(2, 0, DAMAGE, 1);
        due("SEEK damaged", x.tick(), 0);
        x.stop(2, 1);
        due("the last SEEK", x.tick(), 1);
        due("OUT", x.tick(), 1);
        due("none", x.tick(), 0);
    }

    private static void stateRefused() {
        part = "promise 7: exception as for start";
        refusesSides((x, link, end) -> x.state(link, end));
    }

    private static void ofEdges() {
        part = "promise 8: what 0 .. 12";
        ThreeLinkPair x = seekingAlone();
        due("0 is the age", x.of(0, 0, 0), 1);
        x.tick();
        due("12 is what it heard", x.of(0, 1, 12), 1);
        due("11 is its turn", x.of(0, 0, 11), 1);
        noSuchIndex("what -1", () -> x.of(0, 0, -1));
        noSuchIndex("what 13", () -> x.of(0, 0, 13));
    }

    private static void ofRefused() {
        part = "promise 8: IndexOutOfBoundsException as for start, and when there is no such what";
        refusesSides((x, link, end) -> x.of(link, end, 0));
        refusesSides((x, link, end) -> x.of(link, end, 12));
        refusesSides((x, link, end) -> x.of(link, end, 13));
        ThreeLinkPair x = busy();
        for (int what : NO_WHATS) {
            noSuchIndex("what " + what, () -> x.of(0, 0, what));
            noSuchIndex("what " + what, () -> x.of(2, 1, what));
        }
        unchanged(x);
    }

    private static void linkAtFirst() {
        part = "promise 9: at first the link class % 3";
        ThreeLinkPair x = new ThreeLinkPair();
        for (int end = 0; end < 2; end++) {
            due("of class 0", x.link(end, 0), 0);
            due("of class 1", x.link(end, 1), 1);
            due("of class 2", x.link(end, 2), 2);
            due("of class 3", x.link(end, 3), 0);
        }
    }

    private static void linkRefused() {
        part = "promise 9: IndexOutOfBoundsException as for submit";
        refusesClasses((x, end, kind) -> x.link(end, kind));
    }

    private static void changesOfEachSort() {
        part = "promise 10: 0 when none is under way, 1 when it is not settled, 2 when it is";
        ThreeLinkPair x = serving(0, 1);
        due("none", x.changes(0, 0), 0);
        x.stop(0, 0);
        due("not settled", x.changes(0, 0), 1);
        due("none of another link", x.changes(1, 0), 0);
        due("none at the other end", x.changes(0, 1), 0);
        x.stop(1, 0);
        ticks(x, 3);
        startBoth(x, 1);
        ticks(x, 8);
        due("not settled when link 1 serves", x.changes(0, 0), 1);
        ticks(x, 1);
        due("settled", x.changes(0, 0), 2);
        ticks(x, 2);
        due("ended", x.changes(0, 0), 0);
    }

    private static void changesRefused() {
        part = "promise 10: exception as for start";
        refusesSides((x, link, end) -> x.changes(link, end));
    }

    private static void heldFromNoneToEight() {
        part = "promise 11: how many messages are held";
        ThreeLinkPair x = serving(0);
        due("none", x.held(0), 0);
        x.stop(0, 0);
        for (int count = 1; count <= 8; count++) {
            yes("submit", x.submit(0, 0, count));
            due("held", x.held(0), count);
        }
        no("the ninth", x.submit(0, 0, 9));
        due("held", x.held(0), 8);
        due("at the other end", x.held(1), 0);
    }

    private static void heldRefused() {
        part = "promise 11: IndexOutOfBoundsException when there is no such end";
        refusesEnds((x, end) -> x.held(end));
    }

    private static void inboxHasNoBound() {
        part = "promise 12: how many messages are in the inbox (rows are as long as they need to be)";
        ThreeLinkPair x = serving(0);
        int given = 0;
        for (int tick = 0; tick < 110; tick++) {
            if (x.submit(1, 0, given)) {
                given++;
            }
            x.tick();
        }
        ticks(x, 4);
        due("one a tick was submitted", given, 110);
        due("inbox", x.inbox(0), 110);
        for (int word = 0; word < 110; word++) {
            due("take", x.take(0), word);
        }
        due("inbox", x.inbox(0), 0);
    }

    private static void inboxRefused() {
        part = "promise 12: IndexOutOfBoundsException when there is no such end";
        refusesEnds((x, end) -> x.inbox(end));
    }

    private static void takeOfNone() {
        part = "promise 13: NoSuchElementException when there is none";
        Class<?> none = NoSuchElementException.class;
        ThreeLinkPair x = serving(0);
        refused("at end 0", none, () -> x.take(0));
        refused("at end 1", none, () -> x.take(1));
        submitAll(x, 0, 0, 5);
        ticks(x, 2);
        refused("at the end that sent it", none, () -> x.take(0));
        due("at the other one", x.take(1), 5);
        refused("when it is taken", none, () -> x.take(1));
        due("inbox", x.inbox(1), 0);
        submitAll(x, 0, 0, 6);
        ticks(x, 2);
        due("the next one", x.take(1), 6);
    }

    private static void takeFirstOneFirst() {
        part = "promise 13: the first one first";
        ThreeLinkPair x = new ThreeLinkPair();
        for (int end : NO_ENDS) {
            noSuchIndex("end " + end + " while all is empty", () -> x.take(end));
        }
        refused("an end that is", NoSuchElementException.class, () -> x.take(1));
    }

    private static void takeRefused() {
        part = "promise 13: IndexOutOfBoundsException when there is no such end";
        refusesEnds((x, end) -> x.take(end));
    }

    private static void lostAtBothEnds() {
        part = "promise 14: how many messages are lost";
        ThreeLinkPair x = serving(0);
        due("none", x.lost(), 0);
        submitAll(x, 0, 0, 1, 2);
        submitAll(x, 1, 0, 3, 4, 5);
        ticks(x, 2);
        stopBoth(x, 0);
        due("none yet", x.lost(), 0);
        ticks(x, 20);
        due("none while no link serves", x.lost(), 0);
        startBoth(x, 1);
        ticks(x, 8);
        due("two at end 0 and two at end 1 had been sent", x.lost(), 4);
        ticks(x, 20);
        due("and no more", x.lost(), 4);
    }

    private static void callsToTheLastOne() {
        part = "an object is used for at most 512 calls";
        ThreeLinkPair x = new ThreeLinkPair();
        startBoth(x, 0, 1, 2);
        for (int call = 7; call < 512; call++) {
            x.tick();
        }
        due("the 512th call", x.tick(), 6);
    }
}
