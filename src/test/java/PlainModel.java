import java.util.ArrayList;
import java.util.HashMap;
import java.util.List;
import java.util.Map;
import java.util.NoSuchElementException;

/**
 * The document once more, sentence by sentence and without thrift: every message that is sent
 * bears its number and whether it is due again, every unit is a new object, what is remembered
 * is a map. AgainstModelTest compares the program with it.
 */
final class PlainModel {
    record Msg(String sort, int kind, int word, int about, int number, int turn) {
        static Msg ofClass(int kind, int word) {
            return new Msg("class", kind, word, -9, -9, -9);
        }

        static Msg order(int about, int number, int turn) {
            return new Msg("order", -9, -9, about, number, turn);
        }

        static Msg answer(int about, int number, int turn) {
            return new Msg("answer", -9, -9, about, number, turn);
        }
    }

    record Unit(String sort, int turn, Msg msg, int fore, int foreBit, int back, int backBit) {
        static Unit status(String sort, int turn) {
            return new Unit(sort, turn, null, -9, -9, -9, -9);
        }
    }

    static final class Sent {
        final Msg msg;
        final int number;
        boolean again;

        Sent(Msg msg, int number) {
            this.msg = msg;
            this.number = number;
        }
    }

    static final class Kept {
        final Msg msg;
        Integer number;

        Kept(Msg msg, Integer number) {
            this.msg = msg;
            this.number = number;
        }
    }

    static final class Change {
        List<Kept> kept = new ArrayList<>();
        int turn;
        int heard;
        int back;
        boolean said;
        boolean settled;
        int wait;
    }

    final class Side {
        final int link;
        final int end;
        String state = "OUT";
        int age;
        int turn;
        int heard;
        int fore = 7;
        int back = 7;
        int foreBit = 1;
        int backBit = 1;
        int errors;
        int tries;
        int bucket;
        int good;
        int idle;
        int odd;
        List<Sent> sent = new ArrayList<>();
        List<Msg> queued = new ArrayList<>();
        boolean toSayOut;
        Map<Integer, Integer> remembered = new HashMap<>();
        Change change;
        Unit out;
        int how;
        int n;

        Side(int link, int end) {
            this.link = link;
            this.end = end;
        }

        boolean is(String... names) {
            for (String name : names) {
                if (name.equals(state)) {
                    return true;
                }
            }
            return false;
        }

        void be(String name) {
            state = name;
            age = 0;
        }

        void started() {
            be("SEEKING");
            turn++;
            fore = 7;
            back = 7;
            foreBit = 1;
            backBit = 1;
            errors = tries = bucket = good = idle = odd = 0;
            sent = new ArrayList<>();
            queued = new ArrayList<>();
            toSayOut = false;
        }

        void fall() {
            boolean served = is("SERVING");
            be("OUT");
            toSayOut = true;
            if (served) {
                for (int less = heard - 16; less >= 0; less -= 16) {
                    remembered.remove(less);
                }
                remembered.put(heard, back);
                beginChange();
            }
            sent = new ArrayList<>();
            queued = new ArrayList<>();
        }

        void beginChange() {
            boolean already = change != null;
            if (!already) {
                change = new Change();
                change.turn = turn;
                change.heard = heard;
                change.back = back;
            }
            for (Sent one : sent) {
                change.kept.add(new Kept(one.msg, already ? null : Integer.valueOf(one.number)));
            }
            for (Msg one : queued) {
                change.kept.add(new Kept(one, null));
            }
            change.said = false;
        }

        void comes(Unit unit) {
            switch (unit.sort) {
                case "SEEK" -> {
                    if (is("SEEKING")) {
                        be("PROVING");
                    } else if (is("PROVING")) {
                        age = 0;
                        errors = 0;
                    } else if (is("READY", "SERVING")) {
                        fall();
                    }
                    heard = unit.turn;
                }
                case "PROVE" -> {
                    if (is("SEEKING")) {
                        be("PROVING");
                    } else if (is("SERVING")) {
                        fall();
                    }
                    heard = unit.turn;
                }
                case "OUT" -> {
                    if (is("PROVING", "READY", "SERVING")) {
                        fall();
                    }
                }
                default -> numbered(unit);
            }
        }

        void numbered(Unit unit) {
            if (is("READY")) {
                be("SERVING");
            }
            if (!is("SERVING")) {
                return;
            }
            good++;
            if (good == 8) {
                good = 0;
                if (bucket != 0) {
                    bucket--;
                }
            }
            int before = sent.isEmpty() ? fore : (sent.get(0).number + 7) % 8;
            boolean known = unit.back == before;
            for (Sent one : sent) {
                known |= one.number == unit.back;
            }
            if (!known) {
                odd++;
                if (odd == 2) {
                    fall();
                }
                return;
            }
            odd = 0;
            if (unit.back != before) {
                while (sent.get(0).number != unit.back) {
                    sent.remove(0);
                }
                sent.remove(0);
                idle = 0;
            }
            if (unit.backBit != foreBit) {
                foreBit = unit.backBit;
                for (Sent one : sent) {
                    one.again = true;
                }
            }
            if (unit.foreBit == backBit) {
                if (unit.msg != null && unit.fore == (back + 1) % 8) {
                    back = unit.fore;
                    takenAt(end, unit.msg);
                } else if (unit.fore != back) {
                    backBit = backBit == 1 ? 0 : 1;
                }
            }
        }

        void comesDamaged() {
            if (is("PROVING")) {
                errors++;
                if (errors == 2) {
                    age = 0;
                    errors = 0;
                    tries++;
                    if (tries == 3) {
                        fall();
                    }
                }
            } else if (is("SERVING")) {
                bucket++;
                if (bucket == 4) {
                    fall();
                }
            }
        }

        void ages() {
            if (is("SEEKING", "READY")) {
                age++;
                if (age == 15) {
                    fall();
                }
            } else if (is("PROVING")) {
                age++;
                if (age == 6) {
                    be("READY");
                }
            } else if (is("SERVING")) {
                if (sent.isEmpty()) {
                    idle = 0;
                } else {
                    idle++;
                    if (idle == 12) {
                        fall();
                    }
                }
            }
        }

        Unit sends() {
            boolean sayOut = toSayOut;
            toSayOut = false;
            switch (state) {
                case "OUT":
                    return sayOut ? Unit.status("OUT", 0) : null;
                case "SEEKING":
                    return Unit.status("SEEK", turn);
                case "PROVING":
                    return Unit.status("PROVE", turn);
                case "READY":
                    return new Unit("FILL", 0, null, fore, foreBit, back, backBit);
                default:
                    break;
            }
            for (Sent one : sent) {
                if (one.again) {
                    one.again = false;
                    return new Unit("MESSAGE", 0, one.msg, one.number, foreBit, back, backBit);
                }
            }
            if (!queued.isEmpty() && sent.size() < 5) {
                Msg first = queued.remove(0);
                fore = (fore + 1) % 8;
                sent.add(new Sent(first, fore));
                return new Unit("MESSAGE", 0, first, fore, foreBit, back, backBit);
            }
            return new Unit("FILL", 0, null, fore, foreBit, back, backBit);
        }
    }

    final Side[][] sides = new Side[3][2];
    final int[][] classLink = new int[2][4];
    final List<List<Msg>> helds = List.of(new ArrayList<>(), new ArrayList<>());
    final List<List<Msg>> inboxes = List.of(new ArrayList<>(), new ArrayList<>());
    int lost;

    PlainModel() {
        for (int link = 0; link < 3; link++) {
            for (int end = 0; end < 2; end++) {
                sides[link][end] = new Side(link, end);
            }
        }
        for (int end = 0; end < 2; end++) {
            for (int kind = 0; kind < 4; kind++) {
                classLink[end][kind] = kind % 3;
            }
        }
    }

    boolean openAt(int end, int link) {
        return sides[link][end].is("SERVING") && sides[link][end].change == null;
    }

    int chosenAt(int end, int kind) {
        int[] row = {kind % 3, (kind + 1) % 3, (kind + 2) % 3};
        for (int link : row) {
            if (openAt(end, link)) {
                return link;
            }
        }
        return -1;
    }

    boolean someServing(int end) {
        return sides[0][end].is("SERVING") || sides[1][end].is("SERVING") || sides[2][end].is("SERVING");
    }

    void sayAt(int end, Msg msg) {
        for (int link = 0; link < 3; link++) {
            if (sides[link][end].is("SERVING")) {
                sides[link][end].queued.add(msg);
                return;
            }
        }
    }

    void takenAt(int end, Msg msg) {
        if (msg.sort.equals("class")) {
            inboxes.get(end).add(msg);
            return;
        }
        Side side = sides[msg.about][end];
        if (msg.sort.equals("order")) {
            if (side.is("SERVING") && side.heard == msg.turn) {
                side.fall();
            }
            sayAt(end, Msg.answer(msg.about, side.remembered.getOrDefault(msg.turn, -1), msg.turn));
            if (side.change != null && !side.change.settled && side.change.heard == msg.turn) {
                settle(side.change, msg.number);
            }
        } else if (side.change != null && !side.change.settled && side.change.turn == msg.turn) {
            settle(side.change, msg.number);
        }
    }

    void settle(Change change, int number) {
        int upTo = -1;
        for (int place = 0; place < change.kept.size(); place++) {
            Integer has = change.kept.get(place).number;
            if (has != null && has == number) {
                upTo = place;
            }
        }
        change.kept = new ArrayList<>(change.kept.subList(upTo + 1, change.kept.size()));
        for (Kept one : change.kept) {
            one.number = null;
        }
        change.settled = true;
    }

    void changeTick(int end, int link) {
        Side side = sides[link][end];
        Change change = side.change;
        if (change == null) {
            return;
        }
        if (!change.settled && !change.said && someServing(end)) {
            sayAt(end, Msg.order(link, change.back, change.turn));
            change.said = true;
        }
        change.wait++;
        if (change.wait >= 20 && !change.settled && someServing(end)) {
            List<Kept> others = new ArrayList<>();
            for (Kept one : change.kept) {
                if (one.number == null) {
                    others.add(one);
                } else if (one.msg.sort.equals("class")) {
                    lost++;
                }
            }
            change.kept = others;
            change.settled = true;
        }
        if (change.settled) {
            side.change = null;
            if (openAt(end, 0) || openAt(end, 1) || openAt(end, 2)) {
                endChange(end, link, change);
            } else {
                side.change = change;
            }
        }
    }

    void endChange(int end, int link, Change change) {
        int[] before = classLink[end].clone();
        for (Kept one : change.kept) {
            if (one.msg.sort.equals("class")) {
                classLink[end][one.msg.kind] = chosenAt(end, one.msg.kind);
                sides[classLink[end][one.msg.kind]][end].queued.add(one.msg);
            } else {
                sayAt(end, one.msg);
            }
        }
        for (int kind = 0; kind < 4; kind++) {
            if (classLink[end][kind] == link) {
                classLink[end][kind] = chosenAt(end, kind);
            }
        }
        List<Msg> held = helds.get(end);
        for (Msg one : new ArrayList<>(held)) {
            if (before[one.kind] == link) {
                sides[classLink[end][one.kind]][end].queued.add(one);
            }
        }
        held.removeIf(one -> before[one.kind] == link);
    }

    static void check(boolean right) {
        if (!right) {
            throw new IndexOutOfBoundsException();
        }
    }

    Side side(int link, int end) {
        check(link >= 0 && link <= 2 && end >= 0 && end <= 1);
        return sides[link][end];
    }

    static void checkEnd(int end) {
        check(end >= 0 && end <= 1);
    }

    boolean start(int link, int end) {
        Side side = side(link, end);
        boolean out = side.is("OUT");
        if (out) {
            side.started();
        }
        return out;
    }

    boolean stop(int link, int end) {
        Side side = side(link, end);
        boolean in = !side.is("OUT");
        if (in) {
            side.fall();
        }
        return in;
    }

    void fault(int link, int end, int how, int n) {
        Side side = side(link, end);
        if (how < 0 || how > 2 || n < 0 || n > 99) {
            throw new IllegalArgumentException();
        }
        side.how = how;
        side.n = n;
    }

    boolean submit(int end, int kind, int word) {
        checkEnd(end);
        check(kind >= 0 && kind <= 3);
        Msg msg = Msg.ofClass(kind, word);
        Side side = sides[classLink[end][kind]][end];
        if (side.change != null) {
            return helds.get(end).size() < 8 && helds.get(end).add(msg);
        }
        boolean carried = false;
        for (Sent one : side.sent) {
            carried |= one.msg.kind == kind;
        }
        for (Msg one : side.queued) {
            carried |= one.kind == kind;
        }
        if (!carried || !openAt(end, classLink[end][kind])) {
            int chosen = chosenAt(end, kind);
            if (chosen < 0) {
                return false;
            }
            classLink[end][kind] = chosen;
        }
        List<Msg> queue = sides[classLink[end][kind]][end].queued;
        return queue.size() < 6 && queue.add(msg);
    }

    int tick() {
        int came = 0;
        for (int link = 0; link < 3; link++) {
            for (int end = 0; end < 2; end++) {
                Side side = sides[link][end];
                Unit unit = sides[link][1 - end].out;
                if (unit == null) {
                    continue;
                }
                boolean spoilt = side.how != 0 && side.n > 0;
                if (spoilt) {
                    side.n--;
                }
                if (!spoilt) {
                    came++;
                    side.comes(unit);
                } else if (side.how == 2) {
                    side.comesDamaged();
                }
            }
        }
        for (int link = 0; link < 3; link++) {
            for (int end = 0; end < 2; end++) {
                sides[link][end].ages();
            }
        }
        for (int end = 0; end < 2; end++) {
            for (int link = 0; link < 3; link++) {
                changeTick(end, link);
            }
        }
        for (int link = 0; link < 3; link++) {
            for (int end = 0; end < 2; end++) {
                sides[link][end].out = sides[link][end].sends();
            }
        }
        return came;
    }

    int state(int link, int end) {
        return List.of("OUT", "SEEKING", "PROVING", "READY", "SERVING").indexOf(side(link, end).state);
    }

    int of(int link, int end, int what) {
        Side s = side(link, end);
        check(what >= 0 && what <= 12);
        int[] row = {s.age, s.errors, s.tries, s.bucket, s.idle, s.fore, s.back, s.foreBit, s.backBit,
            s.sent.size(), s.queued.size(), s.turn, s.heard};
        return row[what];
    }

    int link(int end, int kind) {
        checkEnd(end);
        check(kind >= 0 && kind <= 3);
        return classLink[end][kind];
    }

    int changes(int link, int end) {
        Change change = side(link, end).change;
        return change == null ? 0 : change.settled ? 2 : 1;
    }

    int held(int end) {
        checkEnd(end);
        return helds.get(end).size();
    }

    int inbox(int end) {
        checkEnd(end);
        return inboxes.get(end).size();
    }

    long take(int end) {
        checkEnd(end);
        if (inboxes.get(end).isEmpty()) {
            throw new NoSuchElementException();
        }
        Msg msg = inboxes.get(end).remove(0);
        return msg.kind * 4294967296L + Integer.toUnsignedLong(msg.word);
    }

    int lost() {
        return lost;
    }
}
