import java.util.ArrayList;
import java.util.Arrays;
import java.util.NoSuchElementException;

/** Two ends with three links between them; DOC.md says what each call does. */
public final class ThreeLinkPair {
    public static final int NONE = -1;

    private static final int ENDS = 2;
    private static final int LINKS = 3;
    private static final int CLASSES = 4;

    /** Messages have numbers modulo this one. */
    private static final int NUMBERS = 8;

    private static final int OUT = 0;
    private static final int SEEKING = 1;
    private static final int PROVING = 2;
    private static final int READY = 3;
    private static final int SERVING = 4;

    private static final int NO_FAULT = 0;
    private static final int DAMAGE = 2;
    private static final int MOST_FAULTS = 99;

    private final End[] ends;
    private final Fault[] faults;

    public ThreeLinkPair() {
        ends = new End[ENDS];
        for (int end = 0; end < ENDS; end++) {
            ends[end] = new End();
        }
        faults = new Fault[LINKS * ENDS];
        for (int place = 0; place < LINKS * ENDS; place++) {
            faults[place] = new Fault();
        }
    }

    public boolean start(int link, int end) throws IndexOutOfBoundsException {
        checkSide(link, end);
        Side side = ends[end].sides[link];
        if (side.state != OUT) {
            return false;
        }
        side.begin();
        return true;
    }

    public boolean stop(int link, int end) throws IndexOutOfBoundsException {
        checkSide(link, end);
        if (ends[end].sides[link].state == OUT) {
            return false;
        }
        ends[end].fall(link);
        return true;
    }

    public void fault(int link, int end, int how, int n)
            throws IndexOutOfBoundsException, IllegalArgumentException {
        checkSide(link, end);
        if (how < NO_FAULT || how > DAMAGE || n < 0 || n > MOST_FAULTS) {
            throw new IllegalArgumentException("how is 0 .. 2, n is 0 .. 99");
        }
        Fault fault = faults[faultPlace(link, end)];
        fault.how = how;
        fault.left = how == NO_FAULT ? 0 : n;
    }

    public boolean submit(int end, int kind, int word) throws IndexOutOfBoundsException {
        checkClass(end, kind);
        return ends[end].accept(kind, word);
    }

    public int tick() {
        int came = 0;
        for (int link = 0; link < LINKS; link++) {
            for (int end = 0; end < ENDS; end++) {
                came += arrive(link, end);
            }
        }
        for (int link = 0; link < LINKS; link++) {
            for (int end = 0; end < ENDS; end++) {
                ends[end].age(link);
            }
        }
        for (int end = 0; end < ENDS; end++) {
            for (int link = 0; link < LINKS; link++) {
                ends[end].changeOver(link);
            }
        }
        for (int link = 0; link < LINKS; link++) {
            for (int end = 0; end < ENDS; end++) {
                ends[end].sides[link].send();
            }
        }
        return came;
    }

    public int state(int link, int end) throws IndexOutOfBoundsException {
        checkSide(link, end);
        return ends[end].sides[link].state;
    }

    public int of(int link, int end, int what) throws IndexOutOfBoundsException {
        checkSide(link, end);
        Side side = ends[end].sides[link];
        switch (what) {
            case 0: return side.age;
            case 1: return side.errors;
            case 2: return side.tries;
            case 3: return side.bucket;
            case 4: return side.idle;
            case 5: return side.fore;
            case 6: return side.back;
            case 7: return side.foreBit;
            case 8: return side.backBit;
            case 9: return side.sent.size();
            case 10: return side.queued.size();
            case 11: return side.turn;
            case 12: return side.heard;
            default: throw new IndexOutOfBoundsException("no such what");
        }
    }

    public int link(int end, int kind) throws IndexOutOfBoundsException {
        checkClass(end, kind);
        return ends[end].links[kind];
    }

    public int changes(int link, int end) throws IndexOutOfBoundsException {
        checkSide(link, end);
        Changeover changeover = ends[end].changeovers[link];
        if (!changeover.underWay) {
            return 0;
        }
        return changeover.settled ? 2 : 1;
    }

    public int held(int end) throws IndexOutOfBoundsException {
        checkEnd(end);
        return ends[end].held.size();
    }

    public int inbox(int end) throws IndexOutOfBoundsException {
        checkEnd(end);
        return ends[end].inbox.size();
    }

    public long take(int end) throws IndexOutOfBoundsException, NoSuchElementException {
        checkEnd(end);
        if (ends[end].inbox.isEmpty()) {
            throw new NoSuchElementException("the inbox is empty");
        }
        Message message = ends[end].inbox.remove(0);
        return ((long) message.kind << 32) | (message.word & 0xFFFFFFFFL);
    }

    public int lost() {
        int all = 0;
        for (int end = 0; end < ENDS; end++) {
            all += ends[end].lostHere;
        }
        return all;
    }

    private static void checkEnd(int end) {
        if (end < 0 || end >= ENDS) {
            throw new IndexOutOfBoundsException("no such end");
        }
    }

    private static void checkSide(int link, int end) {
        checkEnd(end);
        if (link < 0 || link >= LINKS) {
            throw new IndexOutOfBoundsException("no such link");
        }
    }

    private static void checkClass(int end, int kind) {
        checkEnd(end);
        if (kind < 0 || kind >= CLASSES) {
            throw new IndexOutOfBoundsException("no such class");
        }
    }

    private static int faultPlace(int link, int end) {
        return link * ENDS + end;
    }

    /** What the other side sent in the tick before comes to a side: 1 when it came undamaged. */
    private int arrive(int link, int end) {
        Unit unit = ends[1 - end].sides[link].unit;
        if (unit.form == Unit.NOTHING) {
            return 0;
        }
        Fault fault = faults[faultPlace(link, end)];
        if (fault.left > 0) {
            fault.left--;
            if (fault.how == DAMAGE) {
                ends[end].damagedComes(link);
            }
            return 0;
        }
        if (unit.form == Unit.NUMBERED) {
            ends[end].numberedComes(link, unit);
        } else {
            ends[end].statusComes(link, unit);
        }
        return 1;
    }

    private static void dropFirst(ArrayList<Message> row, int count) {
        for (int done = 0; done < count && !row.isEmpty(); done++) {
            row.remove(0);
        }
    }

    /** What is to happen to the next units that would come to a side. */
    private static final class Fault {
        int how = NO_FAULT;
        int left = 0;
    }

    /** Never changed once made, so that rows and units of both ends may share it. */
    private static final class Message {
        static final int ORDER = CLASSES;
        static final int ANSWER = CLASSES + 1;

        /** The class, or ORDER or ANSWER. */
        final int kind;
        /** The word, or the link that an order or answer is about. */
        final int word;
        final int number;
        final int turn;

        Message(int kind, int word, int number, int turn) {
            this.kind = kind;
            this.word = word;
            this.number = number;
            this.turn = turn;
        }

        boolean isOfClass() {
            return kind < CLASSES;
        }
    }

    /** What a side sent in the latest tick; each side has one and fills it anew. */
    private static final class Unit {
        static final int NOTHING = 0;
        static final int SAYS_OUT = 1;
        static final int SEEK = 2;
        static final int PROVE = 3;
        /** A message, or a fill when there is no message in it. */
        static final int NUMBERED = 4;

        int form = NOTHING;
        int turn;
        int fore;
        int foreBit;
        int back;
        int backBit;
        Message message;
    }

    /** The BACK that a side had when it stopped serving, for the turns it heard. */
    private static final class Memory {
        static final int TURNS = 16;

        final int[] turns;
        final int[] backs;

        Memory() {
            turns = new int[TURNS];
            backs = new int[TURNS];
            Arrays.fill(backs, NONE);
        }

        void keep(int turn, int back) {
            int place = Math.floorMod(turn, TURNS);
            turns[place] = turn;
            backs[place] = back;
        }

        int backFor(int turn) {
            int place = Math.floorMod(turn, TURNS);
            return turns[place] == turn ? backs[place] : NONE;
        }
    }

    /** One end's side of a link. */
    private static final class Side {
        static final int MOST_SENT = 5;
        static final int GOOD_FOR_BUCKET = 8;
        static final int ERRORS_FOR_TRY = 2;
        static final int TRIES_TO_FALL = 3;
        static final int BUCKET_TO_FALL = 4;
        static final int AGE_TO_FALL = 15;
        static final int AGE_TO_READY = 6;
        static final int IDLE_TO_FALL = 12;

        int state = OUT;
        int age = 0;
        int turn = 0;
        int heard = 0;
        int fore = NUMBERS - 1;
        int back = NUMBERS - 1;
        int foreBit = 1;
        int backBit = 1;
        int errors = 0;
        int tries = 0;
        int bucket = 0;
        int good = 0;
        int idle = 0;
        int odd = 0;
        /** It fell since it sent last. */
        boolean fell = false;
        /** How many of those sent are due again; they are always the last ones. */
        int due = 0;
        final ArrayList<Message> sent = new ArrayList<>();
        final ArrayList<Message> queued = new ArrayList<>();
        final Memory memory = new Memory();
        final Unit unit = new Unit();

        void begin() {
            comeTo(SEEKING);
            turn++;
            fell = false;
            fore = NUMBERS - 1;
            back = NUMBERS - 1;
            foreBit = 1;
            backBit = 1;
            errors = 0;
            tries = 0;
            bucket = 0;
            good = 0;
            idle = 0;
            odd = 0;
            clearRows();
        }

        void comeTo(int newState) {
            state = newState;
            age = 0;
        }

        void clearRows() {
            sent.clear();
            queued.clear();
            due = 0;
        }

        boolean carries(int kind) {
            return holds(sent, kind) || holds(queued, kind);
        }

        static boolean holds(ArrayList<Message> row, int kind) {
            for (int place = 0; place < row.size(); place++) {
                if (row.get(place).kind == kind) {
                    return true;
                }
            }
            return false;
        }

        void countGood() {
            good++;
            if (good >= GOOD_FOR_BUCKET) {
                good = 0;
                if (bucket > 0) {
                    bucket--;
                }
            }
        }

        /** Whether the BACK of a unit is one that can be; those sent up to it are sent no more. */
        boolean answered(int upTo) {
            int count = Math.floorMod(upTo - fore + sent.size(), NUMBERS);
            if (count > sent.size()) {
                return false;
            }
            dropFirst(sent, count);
            due = Math.min(due, sent.size());
            if (count > 0) {
                idle = 0;
            }
            return true;
        }

        void followBackBit(int bit) {
            if (bit != foreBit) {
                foreBit = bit;
                due = sent.size();
            }
        }

        /** The message in a unit if it is the next one, otherwise null; BACK BIT asks for what is missing. */
        Message nextIn(Unit other) {
            if (other.foreBit != backBit) {
                return null;
            }
            int next = Math.floorMod(back + 1, NUMBERS);
            if (other.message != null && other.fore == next) {
                back = next;
                return other.message;
            }
            if (other.fore != back) {
                backBit = 1 - backBit;
            }
            return null;
        }

        /** Whether it has to fall by a damaged unit. */
        boolean failsByDamage() {
            if (state == SERVING) {
                bucket++;
                return bucket >= BUCKET_TO_FALL;
            }
            if (state != PROVING) {
                return false;
            }
            errors++;
            if (errors < ERRORS_FOR_TRY) {
                return false;
            }
            age = 0;
            errors = 0;
            tries++;
            return tries >= TRIES_TO_FALL;
        }

        /** Whether it has to fall by its age, or since no answer came. */
        boolean failsByAge() {
            switch (state) {
                case SEEKING:
                case READY:
                    age++;
                    return age >= AGE_TO_FALL;
                case PROVING:
                    age++;
                    if (age >= AGE_TO_READY) {
                        comeTo(READY);
                    }
                    return false;
                case SERVING:
                    idle = sent.isEmpty() ? 0 : idle + 1;
                    return idle >= IDLE_TO_FALL;
                default:
                    return false;
            }
        }

        void send() {
            unit.message = null;
            unit.turn = turn;
            switch (state) {
                case SEEKING:
                    unit.form = Unit.SEEK;
                    break;
                case PROVING:
                    unit.form = Unit.PROVE;
                    break;
                case READY:
                case SERVING:
                    sendNumbered();
                    break;
                default:
                    unit.form = fell ? Unit.SAYS_OUT : Unit.NOTHING;
                    break;
            }
            fell = false;
        }

        void sendNumbered() {
            int number = fore;
            if (due > 0 && due <= sent.size()) {
                unit.message = sent.get(sent.size() - due);
                number = Math.floorMod(fore - due + 1, NUMBERS);
                due--;
            } else if (!queued.isEmpty() && sent.size() < MOST_SENT) {
                unit.message = queued.remove(0);
                sent.add(unit.message);
                fore = Math.floorMod(fore + 1, NUMBERS);
                number = fore;
            }
            unit.form = Unit.NUMBERED;
            unit.fore = number;
            unit.foreBit = foreBit;
            unit.back = back;
            unit.backBit = backBit;
        }
    }

    /** What goes on at one end after its side of a link stopped serving. */
    private static final class Changeover {
        boolean underWay = false;
        boolean said = false;
        boolean settled = false;
        int waited = 0;
        int turn = 0;
        int heard = 0;
        int back = 0;
        /** The first so many of those kept have numbers, from firstNumber on (modulo NUMBERS). */
        int numbered = 0;
        int firstNumber = 0;
        final ArrayList<Message> kept = new ArrayList<>();

        void begin(Side side) {
            said = false;
            if (!underWay) {
                underWay = true;
                settled = false;
                waited = 0;
                turn = side.turn;
                heard = side.heard;
                back = side.back;
                numbered = side.sent.size();
                firstNumber = side.fore - side.sent.size() + 1;
            }
            for (int place = 0; place < side.sent.size(); place++) {
                kept.add(side.sent.get(place));
            }
            for (int place = 0; place < side.queued.size(); place++) {
                kept.add(side.queued.get(place));
            }
        }

        void settle(int number) {
            if (number != NONE) {
                int place = Math.floorMod(number - firstNumber, NUMBERS);
                if (place < numbered) {
                    dropFirst(kept, place + 1);
                }
            }
            numbered = 0;
            settled = true;
        }

        /** Settles it without having heard what had come: how many are lost by that. */
        int giveUp() {
            int gone = 0;
            for (int place = 0; place < numbered && place < kept.size(); place++) {
                if (kept.get(place).isOfClass()) {
                    gone++;
                }
            }
            dropFirst(kept, numbered);
            numbered = 0;
            settled = true;
            return gone;
        }
    }

    /** One end: its sides, their changeovers, and what waits there. */
    private static final class End {
        static final int MOST_HELD = 8;
        static final int MOST_QUEUED = 6;
        static final int ODD_TO_FALL = 2;
        static final int LONGEST_WAIT = 20;

        final Side[] sides;
        final Changeover[] changeovers;
        /** The link of each class. */
        final int[] links;
        /** The link that each class had when the changeover that ends now began to end. */
        final int[] linksBefore;
        final ArrayList<Message> held;
        final ArrayList<Message> inbox;
        int lostHere;

        End() {
            sides = new Side[LINKS];
            changeovers = new Changeover[LINKS];
            for (int link = 0; link < LINKS; link++) {
                sides[link] = new Side();
                changeovers[link] = new Changeover();
            }
            links = new int[CLASSES];
            linksBefore = new int[CLASSES];
            for (int kind = 0; kind < CLASSES; kind++) {
                links[kind] = kind % LINKS;
            }
            held = new ArrayList<>();
            inbox = new ArrayList<>();
            lostHere = 0;
        }

        void fall(int link) {
            Side side = sides[link];
            boolean served = side.state == SERVING;
            side.comeTo(OUT);
            side.fell = true;
            if (served) {
                side.memory.keep(side.heard, side.back);
                changeovers[link].begin(side);
            }
            side.clearRows();
        }

        void age(int link) {
            if (sides[link].failsByAge()) {
                fall(link);
            }
        }

        void damagedComes(int link) {
            if (sides[link].failsByDamage()) {
                fall(link);
            }
        }

        void statusComes(int link, Unit unit) {
            switch (unit.form) {
                case Unit.SEEK:
                    seekComes(link);
                    sides[link].heard = unit.turn;
                    break;
                case Unit.PROVE:
                    proveComes(link);
                    sides[link].heard = unit.turn;
                    break;
                default:
                    outComes(link);
                    break;
            }
        }

        void seekComes(int link) {
            Side side = sides[link];
            if (side.state == SEEKING) {
                side.comeTo(PROVING);
            } else if (side.state == PROVING) {
                side.age = 0;
                side.errors = 0;
            } else if (side.state != OUT) {
                fall(link);
            }
        }

        void proveComes(int link) {
            Side side = sides[link];
            if (side.state == SEEKING) {
                side.comeTo(PROVING);
            } else if (side.state == SERVING) {
                fall(link);
            }
        }

        void outComes(int link) {
            int state = sides[link].state;
            if (state != OUT && state != SEEKING) {
                fall(link);
            }
        }

        void numberedComes(int link, Unit unit) {
            Side side = sides[link];
            if (side.state == READY) {
                side.comeTo(SERVING);
            }
            if (side.state != SERVING) {
                return;
            }
            side.countGood();
            if (!side.answered(unit.back)) {
                side.odd++;
                if (side.odd >= ODD_TO_FALL) {
                    fall(link);
                }
                return;
            }
            side.odd = 0;
            side.followBackBit(unit.backBit);
            Message next = side.nextIn(unit);
            if (next != null) {
                takeIn(next);
            }
        }

        void takeIn(Message message) {
            if (message.kind == Message.ORDER) {
                takeOrder(message);
            } else if (message.kind == Message.ANSWER) {
                takeAnswer(message);
            } else {
                inbox.add(message);
            }
        }

        void takeOrder(Message order) {
            int link = order.word;
            Side side = sides[link];
            if (side.state == SERVING && side.heard == order.turn) {
                fall(link);
            }
            int back = side.memory.backFor(order.turn);
            say(new Message(Message.ANSWER, link, back, order.turn));
            Changeover changeover = changeovers[link];
            if (changeover.underWay && !changeover.settled && changeover.heard == order.turn) {
                changeover.settle(order.number);
            }
        }

        void takeAnswer(Message answer) {
            Changeover changeover = changeovers[answer.word];
            if (changeover.underWay && !changeover.settled && changeover.turn == answer.turn) {
                changeover.settle(answer.number);
            }
        }

        /** The serving link with the least number, or NONE. */
        int firstServing() {
            for (int link = 0; link < LINKS; link++) {
                if (sides[link].state == SERVING) {
                    return link;
                }
            }
            return NONE;
        }

        void say(Message message) {
            int link = firstServing();
            if (link != NONE) {
                sides[link].queued.add(message);
            }
        }

        boolean isOpen(int link) {
            return sides[link].state == SERVING && !changeovers[link].underWay;
        }

        /** The open link for a class, or NONE. */
        int choose(int kind) {
            for (int step = 0; step < LINKS; step++) {
                int link = (kind + step) % LINKS;
                if (isOpen(link)) {
                    return link;
                }
            }
            return NONE;
        }

        boolean accept(int kind, int word) {
            if (changeovers[links[kind]].underWay) {
                return addBelow(held, MOST_HELD, kind, word);
            }
            if (!sides[links[kind]].carries(kind) || !isOpen(links[kind])) {
                int chosen = choose(kind);
                if (chosen == NONE) {
                    return false;
                }
                links[kind] = chosen;
            }
            return addBelow(sides[links[kind]].queued, MOST_QUEUED, kind, word);
        }

        static boolean addBelow(ArrayList<Message> row, int bound, int kind, int word) {
            if (row.size() >= bound) {
                return false;
            }
            row.add(new Message(kind, word, NONE, NONE));
            return true;
        }

        void changeOver(int link) {
            Changeover changeover = changeovers[link];
            if (!changeover.underWay) {
                return;
            }
            boolean someServes = firstServing() != NONE;
            if (!changeover.settled && !changeover.said && someServes) {
                say(new Message(Message.ORDER, link, changeover.back, changeover.turn));
                changeover.said = true;
            }
            changeover.waited++;
            if (changeover.waited >= LONGEST_WAIT && !changeover.settled && someServes) {
                lostHere += changeover.giveUp();
            }
            if (changeover.settled && someOpenBeside(link)) {
                finish(link);
            }
        }

        /** Whether some link would be open if the changeover of this one were at its end. */
        boolean someOpenBeside(int ending) {
            for (int link = 0; link < LINKS; link++) {
                if (isOpen(link) || (link == ending && sides[link].state == SERVING)) {
                    return true;
                }
            }
            return false;
        }

        void finish(int link) {
            Changeover changeover = changeovers[link];
            changeover.underWay = false;
            System.arraycopy(links, 0, linksBefore, 0, CLASSES);
            for (int place = 0; place < changeover.kept.size(); place++) {
                passOn(changeover.kept.get(place));
            }
            changeover.kept.clear();
            for (int kind = 0; kind < CLASSES; kind++) {
                if (links[kind] == link) {
                    moveClass(kind);
                }
            }
            letGoHeld(link);
        }

        void passOn(Message message) {
            if (message.isOfClass()) {
                moveClass(message.kind);
                sides[links[message.kind]].queued.add(message);
            } else {
                say(message);
            }
        }

        void moveClass(int kind) {
            int chosen = choose(kind);
            if (chosen != NONE) {
                links[kind] = chosen;
            }
        }

        void letGoHeld(int link) {
            int stay = 0;
            for (int left = held.size(); left > 0 && stay < held.size(); left--) {
                Message message = held.get(stay);
                if (linksBefore[message.kind] == link) {
                    held.remove(stay);
                    sides[links[message.kind]].queued.add(message);
                } else {
                    stay++;
                }
            }
        }
    }
}
