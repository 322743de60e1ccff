import java.util.ArrayList;
import java.util.Comparator;
import java.util.HashSet;
import java.util.List;
import java.util.Set;

/**
 * The document's words as plainly as they can be written: a replica keeps the list of what it has DONE,
 * and each answer is worked out from that list anew. ModelTest holds ReplicaStore against it.
 */
final class PlainStore {
    static final int NONE = -1, BAD = -2, FULL = -3, DOWN = -4;

    record Op(String kind, int which, int value, Op target, int replica, int number, int time, int[] clock) {
        boolean isBefore(Op other) {
            return other.clock[replica] >= number;
        }

        int mark() {
            return time * 4 + replica;
        }
    }

    record Message(int kind, int sender, int[] clock, Op op) {
    }

    static final class Replica {
        boolean up = true;
        final List<Op> done = new ArrayList<>();
        final List<Op> waits = new ArrayList<>();
        final int[][] knows = new int[4][4];
    }

    private final Replica[] replicas = {new Replica(), new Replica(), new Replica(), new Replica()};
    private final List<List<Message>> ways = new ArrayList<>();

    PlainStore() {
        for (int i = 0; i < 16; i++) {
            ways.add(new ArrayList<>());
        }
    }

    int add(int replica, int counter, int n) {
        return isIn(replica, 4) && isIn(counter, 2) ? begin("ADD", replica, counter, n, null) : BAD;
    }

    int put(int replica, int set, int element) {
        return isIn(replica, 4) && isIn(set, 2) && isIn(element, 32) ? begin("PUT", replica, set, element, null) : BAD;
    }

    int take(int replica, int set, int element) {
        return isIn(replica, 4) && isIn(set, 2) && isIn(element, 32) ? begin("TAKE", replica, set, element, null) : BAD;
    }

    int write(int replica, int register, int value) {
        return isIn(replica, 4) && isIn(register, 2) ? begin("WRITE", replica, register, value, null) : BAD;
    }

    int insert(int replica, int text, int place, int character) {
        if (!isIn(replica, 4) || !isIn(text, 2) || character < 1 || character > 127) {
            return BAD;
        }
        List<Op> there = textOf(replica, text);
        if (place < 0 || place > there.size()) {
            return BAD;
        }
        return begin("INSERT", replica, text, character, place == 0 ? null : there.get(place - 1));
    }

    int remove(int replica, int text, int place) {
        if (!isIn(replica, 4) || !isIn(text, 2)) {
            return BAD;
        }
        List<Op> there = textOf(replica, text);
        return isIn(place, there.size()) ? begin("REMOVE", replica, text, 0, there.get(place)) : BAD;
    }

    int deliver(int from, int to, int k) {
        if (way(from, to) < 0 || !isIn(k, way(from, to))) {
            return BAD;
        }
        Replica r = replicas[to];
        if (!r.up) {
            return DOWN;
        }
        Message message = ways.get(from * 4 + to).remove(k);
        if (message.sender != to) {
            for (int j = 0; j < 4; j++) {
                r.knows[message.sender][j] = Math.max(r.knows[message.sender][j], message.clock[j]);
            }
        }
        if (message.kind == 2) {
            for (Op op : logOf(to)) {
                if (message.clock[op.replica] < op.number) {
                    send(to, from, new Message(0, op.replica, op.clock, op));
                }
            }
            send(to, from, new Message(1, to, clockOf(to), null));
        }
        int before = r.done.size();
        if (message.kind == 0 && !r.done.contains(message.op) && !r.waits.contains(message.op)) {
            r.waits.add(message.op);
            while (doOne(to)) {
                continue;
            }
        }
        return r.done.size() - before;
    }

    int copy(int from, int to, int k) {
        if (way(from, to) < 0 || !isIn(k, way(from, to))) {
            return BAD;
        }
        if (way(from, to) == 30) {
            return FULL;
        }
        send(from, to, ways.get(from * 4 + to).get(k));
        return way(from, to);
    }

    int lose(int from, int to, int k) {
        if (way(from, to) < 0 || !isIn(k, way(from, to))) {
            return BAD;
        }
        ways.get(from * 4 + to).remove(k);
        return way(from, to);
    }

    int ask(int from, int to) {
        return sendOwnClock(from, to, 2);
    }

    int tell(int from, int to) {
        return sendOwnClock(from, to, 1);
    }

    int power(int replica, boolean up) {
        if (!isIn(replica, 4)) {
            return BAD;
        }
        int was = replicas[replica].up ? 1 : 0;
        replicas[replica].up = up;
        return was;
    }

    int counter(int replica, int counter) {
        if (!isIn(replica, 4) || !isIn(counter, 2)) {
            return 0;
        }
        long sum = 0;
        for (Op op : doneOf(replica, "ADD", counter)) {
            sum += op.value;
        }
        return (int) sum;
    }

    int has(int replica, int set, int element) {
        if (!isIn(replica, 4) || !isIn(set, 2) || !isIn(element, 32)) {
            return BAD;
        }
        for (Op put : doneOf(replica, "PUT", set)) {
            boolean stands = put.value == element;
            for (Op take : doneOf(replica, "TAKE", set)) {
                stands &= take.value != element || !put.isBefore(take);
            }
            if (stands) {
                return 1;
            }
        }
        return 0;
    }

    int size(int replica, int set) {
        if (!isIn(replica, 4) || !isIn(set, 2)) {
            return BAD;
        }
        int size = 0;
        for (int element = 0; element < 32; element++) {
            size += has(replica, set, element);
        }
        return size;
    }

    int register(int replica, int register) {
        if (!isIn(replica, 4) || !isIn(register, 2)) {
            return 0;
        }
        return doneOf(replica, "WRITE", register).stream().max(Comparator.comparingInt(Op::mark)).map(Op::value).orElse(0);
    }

    int length(int replica, int text) {
        return isIn(replica, 4) && isIn(text, 2) ? textOf(replica, text).size() : BAD;
    }

    int character(int replica, int text, int place) {
        if (!isIn(replica, 4) || !isIn(text, 2)) {
            return NONE;
        }
        List<Op> there = textOf(replica, text);
        return isIn(place, there.size()) ? there.get(place).value : NONE;
    }

    int clock(int replica, int j) {
        return isIn(replica, 4) && isIn(j, 4) ? clockOf(replica)[j] : BAD;
    }

    int knows(int replica, int i, int j) {
        if (!isIn(replica, 4) || !isIn(i, 4) || !isIn(j, 4)) {
            return BAD;
        }
        return i == replica ? clockOf(replica)[j] : replicas[replica].knows[i][j];
    }

    int count(int replica, int what) {
        if (!isIn(replica, 4) || !isIn(what, 7)) {
            return BAD;
        }
        List<Op> log = logOf(replica);
        return switch (what) {
            case 0 -> timeOf(replica);
            case 1 -> log.size();
            case 2 -> replicas[replica].waits.size();
            case 3 -> replicas[replica].up ? 1 : 0;
            case 4 -> doneOf(replica, "INSERT", 0).size() + doneOf(replica, "INSERT", 1).size();
            case 5 -> log.isEmpty() ? NONE : log.get(0).replica;
            default -> log.isEmpty() ? NONE : log.get(0).number;
        };
    }

    int message(int from, int to, int k, int what) {
        if (way(from, to) < 0 || !isIn(what, 8)) {
            return BAD;
        }
        if (!isIn(k, way(from, to))) {
            return NONE;
        }
        Message message = ways.get(from * 4 + to).get(k);
        return switch (what) {
            case 0 -> message.kind;
            case 1 -> message.sender;
            case 2 -> message.op == null ? 0 : message.op.number;
            case 3 -> message.op == null ? 0 : message.op.time;
            default -> message.clock[what - 4];
        };
    }

    int way(int from, int to) {
        return isIn(from, 4) && isIn(to, 4) && from != to ? ways.get(from * 4 + to).size() : BAD;
    }

    private static boolean isIn(int x, int bound) {
        return x >= 0 && x < bound;
    }

    private int begin(String kind, int replica, int which, int value, Op target) {
        if (!replicas[replica].up) {
            return DOWN;
        }
        int[] clock = clockOf(replica);
        if (clock[replica] == 60) {
            return FULL;
        }
        int number = ++clock[replica];
        Op op = new Op(kind, which, value, target, replica, number, timeOf(replica) + 1, clock);
        replicas[replica].done.add(op);
        for (int to = 0; to < 4; to++) {
            if (to != replica) {
                send(replica, to, new Message(0, replica, clock, op));
            }
        }
        return number;
    }

    private int sendOwnClock(int from, int to, int kind) {
        if (way(from, to) < 0) {
            return BAD;
        }
        if (!replicas[from].up) {
            return DOWN;
        }
        if (way(from, to) == 30) {
            return FULL;
        }
        send(from, to, new Message(kind, from, clockOf(from), null));
        return way(from, to);
    }

    private void send(int from, int to, Message message) {
        if (way(from, to) < 30) {
            ways.get(from * 4 + to).add(message);
        }
    }

    private boolean doOne(int replica) {
        Replica r = replicas[replica];
        int[] clock = clockOf(replica);
        for (Op op : r.waits) {
            boolean ready = op.number == clock[op.replica] + 1;
            for (int j = 0; j < 4; j++) {
                ready &= j == op.replica || op.clock[j] <= clock[j];
            }
            if (ready) {
                r.waits.remove(op);
                r.done.add(op);
                return true;
            }
        }
        return false;
    }

    private int[] clockOf(int replica) {
        int[] clock = new int[4];
        for (Op op : replicas[replica].done) {
            clock[op.replica]++;
        }
        return clock;
    }

    private int timeOf(int replica) {
        int time = 0;
        for (Op op : replicas[replica].done) {
            time = Math.max(time, op.time);
        }
        return time;
    }

    private List<Op> logOf(int replica) {
        List<Op> log = new ArrayList<>();
        for (Op op : replicas[replica].done) {
            boolean everywhere = true;
            for (int i = 0; i < 4; i++) {
                everywhere &= i == replica || replicas[replica].knows[i][op.replica] >= op.number;
            }
            if (!everywhere) {
                log.add(op);
            }
        }
        return log;
    }

    private List<Op> doneOf(int replica, String kind, int which) {
        List<Op> found = new ArrayList<>();
        for (Op op : replicas[replica].done) {
            if (op.kind.equals(kind) && op.which == which) {
                found.add(op);
            }
        }
        return found;
    }

    private List<Op> textOf(int replica, int text) {
        List<Op> inserts = doneOf(replica, "INSERT", text);
        inserts.sort(Comparator.comparingInt(Op::mark).reversed());
        List<Op> order = new ArrayList<>();
        walk(inserts, null, order);
        Set<Op> removed = new HashSet<>();
        for (Op removal : doneOf(replica, "REMOVE", text)) {
            removed.add(removal.target);
        }
        order.removeIf(removed::contains);
        return order;
    }

    private static void walk(List<Op> inserts, Op behind, List<Op> order) {
        for (Op op : inserts) {
            if (op.target == behind) {
                order.add(op);
                walk(inserts, op, order);
            }
        }
    }
}
