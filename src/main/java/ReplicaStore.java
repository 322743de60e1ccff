import java.util.ArrayList;

/** Four replicas of a store of counters, sets, registers and texts that tell each other what they did. */
public final class ReplicaStore {
    public static final int NONE = -1, BAD = -2, FULL = -3, DOWN = -4;

    private static final int REPLICAS = 4;
    private static final int PAIR = 2;
    private static final int ELEMENTS = 32;
    private static final int GREATEST_CHARACTER = 127;
    private static final int MOST_OPERATIONS = 60;
    private static final int MOST_MESSAGES = 30;

    private static final int ADD = 0, PUT = 1, TAKE = 2, WRITE = 3, INSERT = 4, REMOVE = 5;
    private static final int OPERATION = 0, CLOCK = 1, QUESTION = 2;

    private static final int GREATEST_COUNT = 6;
    private static final int FIRST_OF_CLOCK = 4;
    private static final int GREATEST_OF_MESSAGE = FIRST_OF_CLOCK + REPLICAS - 1;

    private final Replica[] replicas = new Replica[REPLICAS];
    private final Way[] ways = new Way[REPLICAS * REPLICAS];

    public ReplicaStore() {
        for (int i = 0; i < replicas.length; i++) {
            replicas[i] = new Replica(i);
        }
        for (int i = 0; i < ways.length; i++) {
            ways[i] = new Way();
        }
    }

    public int add(int replica, int counter, int n) {
        if (!isReplica(replica) || !isOfPair(counter)) {
            return BAD;
        }
        return operate(replica, new Change(ADD, counter, n, null));
    }

    public int put(int replica, int set, int element) {
        if (!isReplica(replica) || !isOfPair(set) || !isElement(element)) {
            return BAD;
        }
        return operate(replica, new Change(PUT, set, element, null));
    }

    public int take(int replica, int set, int element) {
        if (!isReplica(replica) || !isOfPair(set) || !isElement(element)) {
            return BAD;
        }
        return operate(replica, new Change(TAKE, set, element, null));
    }

    public int write(int replica, int register, int value) {
        if (!isReplica(replica) || !isOfPair(register)) {
            return BAD;
        }
        return operate(replica, new Change(WRITE, register, value, null));
    }

    public int insert(int replica, int text, int place, int character) {
        if (!isReplica(replica) || !isOfPair(text) || place < 0 || !isCharacter(character)) {
            return BAD;
        }
        if (place == 0) {
            return operate(replica, new Change(INSERT, text, character, null));
        }
        Letter before = replicas[replica].texts[text].letterAt(place - 1);
        if (before == null) {
            return BAD;
        }
        return operate(replica, new Change(INSERT, text, character, before.origin));
    }

    public int remove(int replica, int text, int place) {
        if (!isReplica(replica) || !isOfPair(text)) {
            return BAD;
        }
        Letter letter = replicas[replica].texts[text].letterAt(place);
        if (letter == null) {
            return BAD;
        }
        return operate(replica, new Change(REMOVE, text, 0, letter.origin));
    }

    public int deliver(int from, int to, int k) {
        if (!isOnWay(from, to, k)) {
            return BAD;
        }
        Replica receiver = replicas[to];
        if (!receiver.up) {
            return DOWN;
        }
        Message message = wayBetween(from, to).messages.remove(k);
        int done = receiver.receive(message);
        if (message.kind == QUESTION) {
            answer(to, from, message.clock);
        }
        return done;
    }

    public int copy(int from, int to, int k) {
        if (!isOnWay(from, to, k)) {
            return BAD;
        }
        Way way = wayBetween(from, to);
        if (way.isFull()) {
            return FULL;
        }
        way.send(way.messages.get(k));
        return way.messages.size();
    }

    public int lose(int from, int to, int k) {
        if (!isOnWay(from, to, k)) {
            return BAD;
        }
        Way way = wayBetween(from, to);
        way.messages.remove(k);
        return way.messages.size();
    }

    public int ask(int from, int to) {
        return sendClock(from, to, QUESTION);
    }

    public int tell(int from, int to) {
        return sendClock(from, to, CLOCK);
    }

    public int power(int replica, boolean up) {
        if (!isReplica(replica)) {
            return BAD;
        }
        int before = oneIf(replicas[replica].up);
        replicas[replica].up = up;
        return before;
    }

    public int counter(int replica, int counter) {
        if (!isReplica(replica) || !isOfPair(counter)) {
            return 0;
        }
        return replicas[replica].sums[counter];
    }

    public int has(int replica, int set, int element) {
        if (!isReplica(replica) || !isOfPair(set) || !isElement(element)) {
            return BAD;
        }
        return (replicas[replica].elementBits(set) >>> element) & 1;
    }

    public int size(int replica, int set) {
        if (!isReplica(replica) || !isOfPair(set)) {
            return BAD;
        }
        return Integer.bitCount(replicas[replica].elementBits(set));
    }

    public int register(int replica, int register) {
        if (!isReplica(replica) || !isOfPair(register)) {
            return 0;
        }
        Operation written = replicas[replica].written[register];
        return written == null ? 0 : written.change.value;
    }

    public int length(int replica, int text) {
        if (!isReplica(replica) || !isOfPair(text)) {
            return BAD;
        }
        return replicas[replica].texts[text].lettersThere();
    }

    public int character(int replica, int text, int place) {
        if (!isReplica(replica) || !isOfPair(text)) {
            return NONE;
        }
        Letter letter = replicas[replica].texts[text].letterAt(place);
        return letter == null ? NONE : letter.origin.change.value;
    }

    public int clock(int replica, int j) {
        return knows(replica, replica, j);
    }

    public int knows(int replica, int i, int j) {
        if (!isReplica(replica) || !isReplica(i) || !isReplica(j)) {
            return BAD;
        }
        return replicas[replica].known[i].numbers[j];
    }

    public int count(int replica, int what) {
        if (!isReplica(replica) || what < 0 || what > GREATEST_COUNT) {
            return BAD;
        }
        Replica counted = replicas[replica];
        switch (what) {
            case 0:
                return counted.time;
            case 1:
                return counted.log.size();
            case 2:
                return counted.waiting.size();
            case 3:
                return oneIf(counted.up);
            case 4:
                return counted.texts[0].lettersEver() + counted.texts[1].lettersEver();
            case 5:
                return counted.log.isEmpty() ? NONE : counted.log.get(0).replica;
            default:
                return counted.log.isEmpty() ? NONE : counted.log.get(0).number;
        }
    }

    public int message(int from, int to, int k, int what) {
        if (!isWay(from, to) || what < 0 || what > GREATEST_OF_MESSAGE) {
            return BAD;
        }
        if (!isOnWay(from, to, k)) {
            return NONE;
        }
        Message message = wayBetween(from, to).messages.get(k);
        if (what >= FIRST_OF_CLOCK) {
            return message.clock.numbers[what - FIRST_OF_CLOCK];
        }
        switch (what) {
            case 0:
                return message.kind;
            case 1:
                return message.sender;
            case 2:
                return message.operation == null ? 0 : message.operation.number;
            default:
                return message.operation == null ? 0 : message.operation.time;
        }
    }

    public int way(int from, int to) {
        if (!isWay(from, to)) {
            return BAD;
        }
        return wayBetween(from, to).messages.size();
    }

    private static boolean isReplica(int replica) {
        return replica >= 0 && replica < REPLICAS;
    }

    private static boolean isOfPair(int which) {
        return which >= 0 && which < PAIR;
    }

    private static boolean isElement(int element) {
        return element >= 0 && element < ELEMENTS;
    }

    private static boolean isCharacter(int character) {
        return character >= 1 && character <= GREATEST_CHARACTER;
    }

    private static boolean isWay(int from, int to) {
        return isReplica(from) && isReplica(to) && from != to;
    }

    private static int oneIf(boolean holds) {
        return holds ? 1 : 0;
    }

    private boolean isOnWay(int from, int to, int k) {
        return isWay(from, to) && k >= 0 && k < wayBetween(from, to).messages.size();
    }

    private Way wayBetween(int from, int to) {
        return ways[from * REPLICAS + to];
    }

    private int operate(int replica, Change change) {
        Replica actor = replicas[replica];
        if (!actor.up) {
            return DOWN;
        }
        if (actor.hasMostOperations()) {
            return FULL;
        }
        Operation operation = actor.begin(change);
        Message message = new Message(operation);
        for (int to = 0; to < REPLICAS; to++) {
            if (to != replica) {
                wayBetween(replica, to).send(message);
            }
        }
        return operation.number;
    }

    private int sendClock(int from, int to, int kind) {
        if (!isWay(from, to)) {
            return BAD;
        }
        if (!replicas[from].up) {
            return DOWN;
        }
        Way way = wayBetween(from, to);
        if (way.isFull()) {
            return FULL;
        }
        way.send(new Message(kind, from, replicas[from].ownClock()));
        return way.messages.size();
    }

    private void answer(int from, int to, Clock asked) {
        Replica answering = replicas[from];
        Way way = wayBetween(from, to);
        for (int i = 0; i < answering.log.size() && !way.isFull(); i++) {
            Operation operation = answering.log.get(i);
            if (!asked.covers(operation)) {
                way.send(new Message(operation));
            }
        }
        way.send(new Message(CLOCK, from, answering.ownClock()));
    }

    /** How many OPERATIONS of each replica were DONE. */
    private static final class Clock {
        final int[] numbers;

        Clock(int[] numbers) {
            this.numbers = numbers;
        }

        boolean covers(Operation operation) {
            return numbers[operation.replica] >= operation.number;
        }

        void raiseTo(Clock other) {
            for (int i = 0; i < REPLICAS; i++) {
                numbers[i] = Math.max(numbers[i], other.numbers[i]);
            }
        }
    }

    /** What an OPERATION does; its target is the INSERT of the character that it is about, null at the beginning. */
    private static final class Change {
        final int kind;
        final int which;
        final int value;
        final Operation target;

        Change(int kind, int which, int value, Operation target) {
            this.kind = kind;
            this.which = which;
            this.value = value;
            this.target = target;
        }
    }

    /** It never changes once made, so replicas and messages share it. */
    private static final class Operation {
        final Change change;
        final int replica;
        final int number;
        final int time;
        final Clock clock;

        Operation(Change change, int replica, int time, Clock clock) {
            this.change = change;
            this.replica = replica;
            this.number = clock.numbers[replica];
            this.time = time;
            this.clock = clock;
        }

        boolean hasGreaterMarkThan(Operation other) {
            return time > other.time || time == other.time && replica > other.replica;
        }

        boolean isOfSameElementAs(Operation other) {
            return change.which == other.change.which && change.value == other.change.value;
        }
    }

    /** It never changes once made, so a copy of it is the same object. */
    private static final class Message {
        final int kind;
        final int sender;
        final Clock clock;
        final Operation operation;

        Message(Operation operation) {
            this.kind = OPERATION;
            this.sender = operation.replica;
            this.clock = operation.clock;
            this.operation = operation;
        }

        Message(int kind, int sender, Clock clock) {
            this.kind = kind;
            this.sender = sender;
            this.clock = clock;
            this.operation = null;
        }
    }

    private static final class Way {
        final ArrayList<Message> messages = new ArrayList<>();

        boolean isFull() {
            return messages.size() >= MOST_MESSAGES;
        }

        void send(Message message) {
            if (!isFull()) {
                messages.add(message);
            }
        }
    }

    /** A character in the chain of a TEXT; one taken away stays, as others may be put behind it. */
    private static final class Letter {
        final Operation origin;
        boolean gone;
        Letter next;

        Letter(Operation origin) {
            this.origin = origin;
        }
    }

    private static final class Text {
        final Letter beginning = new Letter(null);

        int lettersEver() {
            int letters = 0;
            for (Letter letter = beginning.next; letter != null; letter = letter.next) {
                letters++;
            }
            return letters;
        }

        int lettersThere() {
            int letters = 0;
            for (Letter letter = beginning.next; letter != null; letter = letter.next) {
                if (!letter.gone) {
                    letters++;
                }
            }
            return letters;
        }

        Letter letterAt(int place) {
            int passed = 0;
            for (Letter letter = beginning.next; letter != null; letter = letter.next) {
                if (!letter.gone) {
                    if (passed == place) {
                        return letter;
                    }
                    passed++;
                }
            }
            return null;
        }

        // What was put behind a character has a greater TIME than that character. So all that stands
        // below a neighbour of a greater MARK has a greater MARK, too, and the first lesser one ends the search.
        void bringIn(Operation insert) {
            Letter before = letterOf(insert.change.target);
            if (before == null) {
                return;
            }
            while (before.next != null && before.next.origin.hasGreaterMarkThan(insert)) {
                before = before.next;
            }
            Letter letter = new Letter(insert);
            letter.next = before.next;
            before.next = letter;
        }

        void bringOut(Operation removal) {
            Letter letter = letterOf(removal.change.target);
            if (letter != null) {
                letter.gone = true;
            }
        }

        private Letter letterOf(Operation origin) {
            for (Letter letter = beginning; letter != null; letter = letter.next) {
                if (letter.origin == origin) {
                    return letter;
                }
            }
            return null;
        }
    }

    private static final class Replica {
        final int self;
        // The row of the replica itself is its own CLOCK.
        final Clock[] known = new Clock[REPLICAS];
        final int[] sums = new int[PAIR];
        // The PUTS behind which no TAKE was DONE. A TAKE is DONE after all PUTS that are BEFORE it,
        // so it need only be looked at once.
        final ArrayList<Operation> standingPuts = new ArrayList<>();
        final Operation[] written = new Operation[PAIR];
        final Text[] texts = new Text[PAIR];
        final ArrayList<Operation> log = new ArrayList<>();
        final ArrayList<Operation> waiting = new ArrayList<>();
        int time = 0;
        boolean up = true;

        Replica(int self) {
            this.self = self;
            for (int i = 0; i < known.length; i++) {
                known[i] = new Clock(new int[REPLICAS]);
            }
            for (int i = 0; i < texts.length; i++) {
                texts[i] = new Text();
            }
        }

        boolean hasMostOperations() {
            return known[self].numbers[self] >= MOST_OPERATIONS;
        }

        /** A copy, as it goes into what is sent. */
        Clock ownClock() {
            return new Clock(known[self].numbers.clone());
        }

        int elementBits(int set) {
            int bits = 0;
            for (int i = 0; i < standingPuts.size(); i++) {
                Change put = standingPuts.get(i).change;
                if (put.which == set) {
                    bits |= 1 << put.value;
                }
            }
            return bits;
        }

        Operation begin(Change change) {
            Clock then = ownClock();
            then.numbers[self]++;
            Operation operation = new Operation(change, self, time + 1, then);
            finish(operation);
            return operation;
        }

        /** How many OPERATIONS were DONE by that. */
        int receive(Message message) {
            if (message.sender != self) {
                known[message.sender].raiseTo(message.clock);
                shortenLog();
            }
            Operation operation = message.operation;
            if (operation == null || known[self].covers(operation) || isWaiting(operation)) {
                return 0;
            }
            waiting.add(operation);
            return finishWaiting();
        }

        private boolean isWaiting(Operation operation) {
            for (int i = 0; i < waiting.size(); i++) {
                if (waiting.get(i) == operation) {
                    return true;
                }
            }
            return false;
        }

        private int finishWaiting() {
            int most = waiting.size();
            for (int done = 0; done < most; done++) {
                int next = firstReady();
                if (next == NONE) {
                    return done;
                }
                finish(waiting.remove(next));
            }
            return most;
        }

        private int firstReady() {
            for (int i = 0; i < waiting.size(); i++) {
                if (isReady(waiting.get(i))) {
                    return i;
                }
            }
            return NONE;
        }

        private boolean isReady(Operation operation) {
            for (int i = 0; i < REPLICAS; i++) {
                int done = known[self].numbers[i];
                int needed = operation.clock.numbers[i];
                if (i == operation.replica ? needed != done + 1 : needed > done) {
                    return false;
                }
            }
            return true;
        }

        private void finish(Operation operation) {
            known[self].numbers[operation.replica] = operation.number;
            time = Math.max(time, operation.time);
            apply(operation);
            if (!isDoneEverywhere(operation)) {
                log.add(operation);
            }
        }

        private void apply(Operation operation) {
            Change change = operation.change;
            switch (change.kind) {
                case ADD:
                    sums[change.which] += change.value;
                    break;
                case PUT:
                    standingPuts.add(operation);
                    break;
                case TAKE:
                    dropPutsBefore(operation);
                    break;
                case WRITE:
                    keepGreaterMark(operation);
                    break;
                case INSERT:
                    texts[change.which].bringIn(operation);
                    break;
                default:
                    texts[change.which].bringOut(operation);
                    break;
            }
        }

        private void dropPutsBefore(Operation taking) {
            for (int i = standingPuts.size() - 1; i >= 0; i--) {
                Operation put = standingPuts.get(i);
                if (put.isOfSameElementAs(taking) && taking.clock.covers(put)) {
                    standingPuts.remove(i);
                }
            }
        }

        private void keepGreaterMark(Operation writing) {
            int register = writing.change.which;
            if (written[register] == null || writing.hasGreaterMarkThan(written[register])) {
                written[register] = writing;
            }
        }

        private boolean isDoneEverywhere(Operation operation) {
            for (int i = 0; i < REPLICAS; i++) {
                if (!known[i].covers(operation)) {
                    return false;
                }
            }
            return true;
        }

        private void shortenLog() {
            for (int i = log.size() - 1; i >= 0; i--) {
                if (isDoneEverywhere(log.get(i))) {
                    log.remove(i);
                }
            }
        }
    }
}
