import java.util.List;

/** Promise by promise, each sentence that names a boundary case: too small, too large, empty, full, refused. */
public final class BoundariesTest {
    private static final int NONE = -1, BAD = -2, FULL = -3, DOWN = -4;
    private static final int LEAST = Integer.MIN_VALUE, MOST = Integer.MAX_VALUE;
    private static final int[] NO_REPLICA = {-1, 4, 5, LEAST, MOST};
    private static final int[] NO_PAIR = {-1, 2, 3, LEAST, MOST};
    private static final int[] NO_ELEMENT = {-1, 32, 33, 63, LEAST, MOST};
    private static final int[] NO_CHARACTER = {0, -1, 128, 'a' + 256, LEAST, MOST};

    private BoundariesTest() {
    }

    public static void main(String[] args) {
        newObject();
        add();
        put();
        take();
        write();
        insert();
        remove();
        deliver();
        copy();
        lose();
        ask();
        tell();
        power();
        counter();
        has();
        size();
        register();
        length();
        character();
        clock();
        knows();
        count();
        message();
        way();
        Check.end();
    }

    // How a sentence is tried

    private static void due(String call, int got, int want) {
        Check.due(call, got, want);
    }

    /** The answer of a call in a scene. */
    private static void answers(int want, Scene scene, Call call, int... arguments) {
        due(scene + ", " + call.text(arguments), call.on(scene.made(), arguments), want);
    }

    /** A call that is refused: its answer is that, and all that can be seen is as it was. */
    private static void refuses(int want, Scene scene, Call call, int... arguments) {
        answers(want, scene, call, arguments);
        List<String> before = State.of(scene);
        List<String> after = State.of(() -> {
            ReplicaStore x = scene.made();
            call.on(x, arguments);
            return x;
        });
        for (int i = 0; i < before.size(); i++) {
            Check.holds(scene + ", " + call.text(arguments) + " changes nothing, but " + before.get(i) + " became "
                + after.get(i), before.get(i).equals(after.get(i)));
        }
    }

    /** One argument is wrong, all others are right. */
    private static void wrong(int want, Call call, int position, int... values) {
        for (int value : values) {
            refuses(want, Scene.BUSY, call, call.rightBut(position, value));
        }
    }

    /** The values at the edge, where all is right yet. */
    private static void right(Call call, int position, int... values) {
        for (int value : values) {
            int[] arguments = call.rightBut(position, value);
            int answer = call.on(Scene.BUSY.made(), arguments);
            Check.holds(call.text(arguments) + " is not refused, but answered " + answer, answer >= 0);
        }
    }

    // What the six OPERATIONS have in common: "BAD: no such replica ..; DOWN; FULL: it had 60. (So with all of these.)"

    private static void noSuchReplica(Call call) {
        Check.sentence(call + ", BAD: no such replica");
        wrong(BAD, call, 0, NO_REPLICA);
    }

    private static void noSuchOfTwo(Call call) {
        Check.sentence(call + ", BAD: no such COUNTER, SET, REGISTER or TEXT");
        wrong(BAD, call, 1, NO_PAIR);
    }

    private static void noSuchElement(Call call) {
        Check.sentence(call + ", BAD: no such element");
        wrong(BAD, call, 2, NO_ELEMENT);
        right(call, 2, 0, 31);
    }

    private static void isDown(Call call) {
        Check.sentence(call + ", DOWN");
        refuses(DOWN, Scene.NOUGHT_DOWN, call, call.right());
        due("another one is down", call.on(Scene.ONE_DOWN.made(), call.right()), 6);
        ReplicaStore x = Scene.NOUGHT_DOWN.made();
        x.power(0, true);
        due("up again", call.on(x, call.right()), 6);
    }

    private static void hadSixty(Call call) {
        Check.sentence(call + ", FULL: it had 60");
        refuses(FULL, Scene.SIXTY, call, call.right());
        ReplicaStore x = new ReplicaStore();
        due("the first one", x.insert(0, 0, 0, 'a'), 1);
        for (int n = 2; n <= 59; n++) {
            x.write(0, 1, n);
        }
        due("it had 59", call.on(x, call.right()), 60);
        int[] again = call == Call.REMOVE ? Call.ADD.right() : call.right();
        Call last = call == Call.REMOVE ? Call.ADD : call;
        due("it had 60", last.on(x, again), FULL);
    }

    // Promise 1

    private static void newObject() {
        Check.sentence("1, Nothing was done");
        ReplicaStore x = new ReplicaStore();
        for (int r = 0; r < 4; r++) {
            for (int two = 0; two < 2; two++) {
                due("counter", x.counter(r, two), 0);
                due("size", x.size(r, two), 0);
                due("register", x.register(r, two), 0);
                due("length", x.length(r, two), 0);
            }
            int[] counts = {0, 0, 0, 1, 0, NONE, NONE};
            for (int what = 0; what < 7; what++) {
                due("count " + what, x.count(r, what), counts[what]);
            }
            for (int j = 0; j < 4; j++) {
                due("clock", x.clock(r, j), 0);
            }
        }
        Check.sentence("1, nothing is on a WAY");
        for (int from = 0; from < 4; from++) {
            for (int to = 0; to < 4; to++) {
                due("way", x.way(from, to), from == to ? BAD : 0);
            }
        }
        Check.sentence("1, a new object has nothing of another one");
        Scene.BUSY.made();
        ReplicaStore y = new ReplicaStore();
        due("counter", y.counter(0, 0), 0);
        due("way", y.way(0, 1), 0);
    }

    // Promise 2

    private static void add() {
        noSuchReplica(Call.ADD);
        noSuchOfTwo(Call.ADD);
        isDown(Call.ADD);
        hadSixty(Call.ADD);
        addNumbers();
        sixtyOfOwnOnly();
        refusedOnesAreNotNumbered();
        badBeforeDownBeforeFull();
    }

    private static void addNumbers() {
        Check.sentence("2, ADD: the OPERATION's number, from 1 on, up to 60 of each");
        ReplicaStore x = new ReplicaStore();
        for (int n = 1; n <= 60; n++) {
            for (int r = 0; r < 4; r++) {
                due("add", x.add(r, n % 2, 1), n);
            }
        }
        for (int r = 0; r < 4; r++) {
            due("the 61st", x.add(r, 0, 1), FULL);
            due("what was DONE", x.counter(r, 0), 30);
            due("what was DONE", x.counter(r, 1), 30);
            due("clock", x.clock(r, r), 60);
            due("TIME", x.count(r, 0), 60);
        }
    }

    private static void sixtyOfOwnOnly() {
        Check.sentence("2, FULL: it had 60, not counting those of others");
        ReplicaStore x = new ReplicaStore();
        for (int i = 0; i < 30; i++) {
            x.add(0, 0, 1);
            x.add(2, 0, 1);
        }
        for (int i = 0; i < 30; i++) {
            due("comes", x.deliver(0, 1, 0), 1);
            due("comes", x.deliver(2, 1, 0), 1);
        }
        due("its first own one", x.add(1, 0, 1), 1);
        due("all are DONE", x.counter(1, 0), 61);
    }

    private static void refusedOnesAreNotNumbered() {
        Check.sentence("2, a refused OPERATION has no number and no TIME");
        ReplicaStore x = new ReplicaStore();
        x.add(0, 2, 1);
        x.put(0, 0, 32);
        x.insert(0, 0, 1, 'a');
        x.remove(0, 0, 0);
        x.power(0, false);
        x.add(0, 0, 1);
        x.power(0, true);
        due("the first one", x.add(0, 0, 1), 1);
        due("its TIME", x.message(0, 3, 0, 3), 1);
        due("alone on the WAY", x.way(0, 3), 1);
    }

    private static void badBeforeDownBeforeFull() {
        Check.sentence("2, BAD, DOWN, FULL, in that order");
        ReplicaStore x = Scene.SIXTY.made();
        due("full", x.add(0, 0, 1), FULL);
        due("full and bad", x.add(0, 2, 1), BAD);
        x.power(0, false);
        due("full and down", x.add(0, 0, 1), DOWN);
        due("full and down and bad", x.add(0, 2, 1), BAD);
    }

    // Promises 3 and 4

    private static void put() {
        noSuchReplica(Call.PUT);
        noSuchOfTwo(Call.PUT);
        noSuchElement(Call.PUT);
        isDown(Call.PUT);
        hadSixty(Call.PUT);
        putOfAllElements();
    }

    private static void putOfAllElements() {
        Check.sentence("3, elements 0 .. 31, each by itself");
        ReplicaStore x = new ReplicaStore();
        for (int element = 0; element < 32; element++) {
            due("not yet", x.has(3, 1, element), 0);
            due("put", x.put(3, 1, element), element + 1);
            due("in it", x.has(3, 1, element), 1);
            due("size", x.size(3, 1), element + 1);
        }
        due("also one that is in it", x.put(3, 1, 31), 33);
        due("once", x.size(3, 1), 32);
        due("the other SET is empty", x.size(3, 0), 0);
    }

    private static void take() {
        noSuchReplica(Call.TAKE);
        noSuchOfTwo(Call.TAKE);
        noSuchElement(Call.TAKE);
        isDown(Call.TAKE);
        hadSixty(Call.TAKE);
        takeOfOneThatIsNotInIt();
        takeOfTheLastOne();
    }

    private static void takeOfOneThatIsNotInIt() {
        Check.sentence("4, TAKE (also of one that is not in it)");
        ReplicaStore x = new ReplicaStore();
        due("of an empty SET", x.take(0, 0, 31), 1);
        due("it is sent", x.way(0, 1), 1);
        due("TIME", x.count(0, 0), 1);
        x.put(0, 0, 30);
        due("of another element", x.take(0, 0, 31), 3);
        due("the element stays", x.size(0, 0), 1);
        due("of the other SET", x.take(0, 1, 30), 4);
        due("the element stays", x.has(0, 0, 30), 1);
    }

    private static void takeOfTheLastOne() {
        Check.sentence("4, TAKE, and the SET is empty again");
        ReplicaStore x = new ReplicaStore();
        x.put(0, 1, 0);
        due("take", x.take(0, 1, 0), 2);
        due("has", x.has(0, 1, 0), 0);
        due("size", x.size(0, 1), 0);
        due("take again", x.take(0, 1, 0), 3);
        due("size", x.size(0, 1), 0);
    }

    // Promise 5

    private static void write() {
        noSuchReplica(Call.WRITE);
        noSuchOfTwo(Call.WRITE);
        isDown(Call.WRITE);
        hadSixty(Call.WRITE);
        Check.sentence("5, any number can be written");
        ReplicaStore x = new ReplicaStore();
        int n = 0;
        for (int value : new int[] {LEAST, MOST, NONE, BAD, FULL, DOWN, 0}) {
            due("write", x.write(1, n % 2, value), n + 1);
            due("register", x.register(1, n % 2), value);
            n++;
        }
    }

    // Promise 6

    private static void insert() {
        noSuchReplica(Call.INSERT);
        noSuchOfTwo(Call.INSERT);
        isDown(Call.INSERT);
        hadSixty(Call.INSERT);
        noSuchCharacter();
        noSuchPlaceToInsert();
        insertIntoAnEmptyText();
        placesPassOverThoseTakenAway();
    }

    private static void noSuchCharacter() {
        Check.sentence("6, BAD: no such character (1 .. 127)");
        wrong(BAD, Call.INSERT, 3, NO_CHARACTER);
        for (int character = 1; character <= 127; character++) {
            ReplicaStore x = new ReplicaStore();
            due("insert", x.insert(0, 1, 0, character), 1);
            due("character", x.character(0, 1, 0), character);
        }
    }

    private static void noSuchPlaceToInsert() {
        Check.sentence("6, BAD: no such place, 0 .. its length");
        wrong(BAD, Call.INSERT, 2, -1, 2, 3, LEAST, MOST);
        right(Call.INSERT, 2, 0, 1);
        ReplicaStore x = new ReplicaStore();
        for (int length = 0; length < 20; length++) {
            due("behind its length", x.insert(0, 0, length + 1, 'x'), BAD);
            due("before the beginning", x.insert(0, 0, -1, 'x'), BAD);
            due("at its length", x.insert(0, 0, length, 'a' + length), length + 1);
            due("it is the last one", x.character(0, 0, length), 'a' + length);
        }
        due("length", x.length(0, 0), 20);
    }

    private static void insertIntoAnEmptyText() {
        Check.sentence("6, an empty TEXT has place 0 alone");
        refuses(BAD, Scene.NEW, Call.INSERT, 0, 0, 1, 'a');
        refuses(BAD, Scene.NEW, Call.INSERT, 0, 0, -1, 'a');
        answers(1, Scene.NEW, Call.INSERT, 0, 0, 0, 'a');
        refuses(BAD, Scene.BUSY, Call.INSERT, 0, 1, 1, 'a');
        answers(6, Scene.BUSY, Call.INSERT, 0, 1, 0, 'a');
    }

    private static void placesPassOverThoseTakenAway() {
        Check.sentence("6, the length does not count those that were taken away");
        ReplicaStore x = new ReplicaStore();
        x.insert(0, 0, 0, 'a');
        x.insert(0, 0, 1, 'b');
        x.remove(0, 0, 1);
        due("length", x.length(0, 0), 1);
        due("place 2", x.insert(0, 0, 2, 'c'), BAD);
        due("place 1", x.insert(0, 0, 1, 'c'), 4);
        x.remove(0, 0, 0);
        x.remove(0, 0, 0);
        due("place 1 of an empty one", x.insert(0, 0, 1, 'd'), BAD);
        due("place 0 of an empty one", x.insert(0, 0, 0, 'd'), 7);
        due("character", x.character(0, 0, 0), 'd');
    }

    // Promise 7

    private static void remove() {
        noSuchReplica(Call.REMOVE);
        noSuchOfTwo(Call.REMOVE);
        isDown(Call.REMOVE);
        hadSixty(Call.REMOVE);
        noSuchPlaceToRemove();
        removeFromAnEmptyText();
        removeTheFirstAndTheLast();
    }

    private static void noSuchPlaceToRemove() {
        Check.sentence("7, BAD: no such place, 0 .. its length less 1");
        wrong(BAD, Call.REMOVE, 2, -1, 1, 2, LEAST, MOST);
        right(Call.REMOVE, 2, 0);
        refuses(BAD, Scene.BUSY, Call.REMOVE, 1, 0, 2);
        answers(5, Scene.BUSY, Call.REMOVE, 1, 0, 1);
    }

    private static void removeFromAnEmptyText() {
        Check.sentence("7, an empty TEXT has no place");
        refuses(BAD, Scene.NEW, Call.REMOVE, 0, 0, 0);
        refuses(BAD, Scene.NEW, Call.REMOVE, 0, 0, -1);
        refuses(BAD, Scene.BUSY, Call.REMOVE, 0, 1, 0);
        ReplicaStore x = new ReplicaStore();
        x.insert(0, 0, 0, 'a');
        due("the only one", x.remove(0, 0, 0), 2);
        due("none is left", x.remove(0, 0, 0), BAD);
        due("it counts yet", x.count(0, 4), 1);
    }

    private static void removeTheFirstAndTheLast() {
        Check.sentence("7, REMOVE the character at a place, the first and the last");
        ReplicaStore x = new ReplicaStore();
        for (int i = 0; i < 4; i++) {
            x.insert(0, 0, i, 'a' + i);
        }
        due("the last", x.remove(0, 0, 3), 5);
        due("the last is c", x.character(0, 0, 2), 'c');
        due("there is no d", x.character(0, 0, 3), NONE);
        due("the first", x.remove(0, 0, 0), 6);
        due("the first is b", x.character(0, 0, 0), 'b');
        due("length", x.length(0, 0), 2);
        due("place 2", x.remove(0, 0, 2), BAD);
    }

    // Promises 8, 9 and 10: the k-th message on a WAY

    private static void noSuchWay(Call call) {
        Check.sentence(call + ", BAD: no such replicas");
        wrong(BAD, call, 0, NO_REPLICA);
        wrong(BAD, call, 1, NO_REPLICA);
        Check.sentence(call + ", BAD: the same twice, too");
        wrong(BAD, call, 1, 0);
        wrong(BAD, call, 0, 1);
    }

    private static void noSuchMessage(Call call) {
        Check.sentence(call + ", BAD: no such k");
        wrong(BAD, call, 2, -1, 2, 3, LEAST, MOST);
        right(call, 2, 0, 1);
        refuses(BAD, Scene.THIRTY, call, 0, 1, 30);
        Check.sentence(call + ", BAD: no such k where the WAY is empty");
        refuses(BAD, Scene.NEW, call, 0, 1, 0);
        refuses(BAD, Scene.THIRTY, call, 1, 0, 0);
    }

    private static void deliver() {
        noSuchWay(Call.DELIVER);
        noSuchMessage(Call.DELIVER);
        Check.sentence("8, DOWN: the other one is (it stays on its WAY)");
        refuses(DOWN, Scene.ONE_DOWN, Call.DELIVER, 0, 1, 0);
        refuses(DOWN, Scene.ONE_DOWN, Call.DELIVER, 0, 1, 1);
        refuses(DOWN, Scene.ONE_DOWN, Call.DELIVER, 3, 1, 1);
        refuses(BAD, Scene.ONE_DOWN, Call.DELIVER, 0, 1, 2);
        answers(1, Scene.NOUGHT_DOWN, Call.DELIVER, 0, 1, 0);
        deliverAfterDown();
        deliverFirstAndLast();
        deliverEmptiesTheWay();
    }

    private static void deliverAfterDown() {
        Check.sentence("8, what stayed on its WAY comes later");
        ReplicaStore x = Scene.ONE_DOWN.made();
        due("down", x.deliver(0, 1, 1), DOWN);
        due("down", x.deliver(0, 1, 0), DOWN);
        x.power(1, true);
        due("the first one", x.deliver(0, 1, 0), 1);
        due("the second one", x.deliver(0, 1, 0), 1);
        due("nothing is left", x.deliver(0, 1, 0), BAD);
    }

    private static void deliverFirstAndLast() {
        Check.sentence("8, the k-th message (0 the first), also of 30");
        ReplicaStore x = new ReplicaStore();
        for (int i = 0; i < 30; i++) {
            x.add(0, 0, 1);
        }
        due("the last one waits", x.deliver(0, 1, 29), 0);
        due("29 are left", x.way(0, 1), 29);
        due("k is too great now", x.deliver(0, 1, 29), BAD);
        due("the first one", x.deliver(0, 1, 0), 1);
        for (int k = 27; k > 0; k--) {
            due("the last one waits", x.deliver(0, 1, k), 0);
        }
        due("28 wait", x.count(1, 2), 28);
        due("29 are DONE by the one that was lacking", x.deliver(0, 1, 0), 29);
        due("none waits", x.count(1, 2), 0);
        due("all are DONE", x.clock(1, 0), 30);
    }

    private static void deliverEmptiesTheWay() {
        Check.sentence("8, how many were DONE by that: none by a CLOCK, a QUESTION or one that comes again");
        ReplicaStore x = new ReplicaStore();
        x.add(0, 0, 1);
        x.copy(0, 1, 0);
        x.tell(0, 1);
        x.ask(0, 1);
        int[] done = {1, 0, 0, 0, BAD};
        for (int i = 0; i < done.length; i++) {
            due("message " + i, x.deliver(0, 1, 0), done[i]);
        }
        due("the WAY is empty", x.way(0, 1), 0);
    }

    private static void copy() {
        noSuchWay(Call.COPY);
        noSuchMessage(Call.COPY);
        Check.sentence("9, FULL: there are 30");
        refuses(FULL, Scene.THIRTY, Call.COPY, 0, 1, 0);
        refuses(FULL, Scene.THIRTY, Call.COPY, 0, 1, 29);
        refuses(BAD, Scene.THIRTY, Call.COPY, 0, 1, -1);
        answers(2, Scene.THIRTY, Call.COPY, 0, 2, 0);
        ReplicaStore x = Scene.THIRTY.made();
        x.lose(0, 1, 29);
        due("there are 29", x.copy(0, 1, 28), 30);
        due("there are 30", x.copy(0, 1, 28), FULL);
        Check.sentence("9, the second one behind all others");
        x = Scene.BUSY.made();
        due("copy of the last one", x.copy(0, 1, 1), 3);
        due("copy of the first one", x.copy(0, 1, 0), 4);
        int[] numbers = {4, 5, 5, 4};
        for (int k = 0; k < 4; k++) {
            due("message " + k, x.message(0, 1, k, 2), numbers[k]);
        }
        Check.sentence("9, copy is not for those that are up alone");
        answers(3, Scene.ONE_DOWN, Call.COPY, 0, 1, 0);
        answers(3, Scene.NOUGHT_DOWN, Call.COPY, 0, 1, 0);
    }

    private static void lose() {
        noSuchWay(Call.LOSE);
        noSuchMessage(Call.LOSE);
        Check.sentence("10, how many there are: down to none");
        ReplicaStore x = Scene.THIRTY.made();
        for (int left = 29; left >= 0; left--) {
            due("lose", x.lose(0, 1, left % 2 == 0 ? 0 : left), left);
            due("way", x.way(0, 1), left);
        }
        due("nothing is left", x.lose(0, 1, 0), BAD);
        due("the other WAYS stay", x.way(0, 2), 1);
        Check.sentence("10, lose is not for those that are up alone");
        answers(1, Scene.ONE_DOWN, Call.LOSE, 0, 1, 0);
        answers(1, Scene.NOUGHT_DOWN, Call.LOSE, 0, 1, 0);
    }

    // Promises 11 and 12

    private static void sent(Call call) {
        noSuchWay(call);
        Check.sentence(call + ", DOWN: the first one is");
        refuses(DOWN, Scene.NOUGHT_DOWN, call, 0, 1);
        answers(3, Scene.ONE_DOWN, call, 0, 1);
        refuses(BAD, Scene.NOUGHT_DOWN, call, 0, 0);
        refuses(BAD, Scene.NOUGHT_DOWN, call, 0, 4);
        Check.sentence(call + ", FULL, and nothing is sent: there are 30");
        refuses(FULL, Scene.THIRTY, call, 0, 1);
        answers(2, Scene.THIRTY, call, 0, 2);
        answers(1, Scene.THIRTY, call, 1, 0);
        ReplicaStore x = Scene.THIRTY.made();
        x.lose(0, 1, 0);
        due("there are 29", call.on(x, 0, 1), 30);
        due("there are 30", call.on(x, 0, 1), FULL);
        x.power(0, false);
        due("down and full", call.on(x, 0, 1), DOWN);
        Check.sentence(call + ", how many there are on that WAY, from an empty one on");
        x = new ReplicaStore();
        for (int n = 1; n <= 30; n++) {
            due("sent", call.on(x, 3, 2), n);
        }
        due("there are 30", call.on(x, 3, 2), FULL);
        due("the others are empty", x.way(2, 3), 0);
        due("the others are empty", x.way(3, 1), 0);
    }

    private static void ask() {
        sent(Call.ASK);
    }

    private static void tell() {
        sent(Call.TELL);
    }

    // Promise 13

    private static void power() {
        Check.sentence("13, BAD: no such replica");
        wrong(BAD, Call.POWER, 0, NO_REPLICA);
        for (int no : NO_REPLICA) {
            refuses(BAD, Scene.NOUGHT_DOWN, Call.POWER, no, 1);
        }
        Check.sentence("13, whether it was up, also if it stays so");
        ReplicaStore x = new ReplicaStore();
        for (int r = 0; r < 4; r++) {
            due("up at first", x.power(r, true), 1);
            due("was up", x.power(r, false), 1);
            due("was down", x.power(r, false), 0);
            due("it is down", x.count(r, 3), 0);
            due("was down", x.power(r, true), 0);
            due("was up", x.power(r, true), 1);
            due("it is up", x.count(r, 3), 1);
        }
        Check.sentence("13, What it has stays");
        List<String> before = State.of(Scene.BUSY);
        List<String> after = State.of(() -> {
            ReplicaStore y = Scene.BUSY.made();
            for (int r = 0; r < 4; r++) {
                y.power(r, false);
            }
            for (int r = 0; r < 4; r++) {
                y.power(r, true);
            }
            return y;
        });
        for (int i = 0; i < before.size(); i++) {
            Check.holds(before.get(i) + " became " + after.get(i), before.get(i).equals(after.get(i)));
        }
    }

    // Promises 14 to 19

    private static void counter() {
        Check.sentence("14, 0 if there is none such");
        answers(5, Scene.BUSY, Call.COUNTER, 0, 0);
        answers(-1, Scene.BUSY, Call.COUNTER, 3, 1);
        wrong(0, Call.COUNTER, 0, NO_REPLICA);
        wrong(0, Call.COUNTER, 1, NO_PAIR);
        for (int no : NO_REPLICA) {
            refuses(0, Scene.BUSY, Call.COUNTER, no, 1);
            refuses(0, Scene.BUSY, Call.COUNTER, no, no);
        }
        answers(5, Scene.NOUGHT_DOWN, Call.COUNTER, 0, 0);
    }

    private static void has() {
        Check.sentence("15, BAD: no such replica, SET or element");
        wrong(BAD, Call.HAS, 0, NO_REPLICA);
        wrong(BAD, Call.HAS, 1, NO_PAIR);
        wrong(BAD, Call.HAS, 2, NO_ELEMENT);
        right(Call.HAS, 2, 0, 31);
        Check.sentence("15, 1 or 0");
        answers(1, Scene.BUSY, Call.HAS, 0, 1, 31);
        answers(0, Scene.BUSY, Call.HAS, 0, 1, 30);
        answers(0, Scene.BUSY, Call.HAS, 0, 0, 31);
        answers(1, Scene.BUSY, Call.HAS, 1, 0, 0);
        answers(0, Scene.BUSY, Call.HAS, 1, 1, 31);
        answers(1, Scene.NOUGHT_DOWN, Call.HAS, 0, 1, 31);
    }

    private static void size() {
        Check.sentence("16, BAD: no such replica or SET");
        wrong(BAD, Call.SIZE, 0, NO_REPLICA);
        wrong(BAD, Call.SIZE, 1, NO_PAIR);
        Check.sentence("16, How many elements a SET has: none, one");
        answers(0, Scene.BUSY, Call.SIZE, 0, 0);
        answers(1, Scene.BUSY, Call.SIZE, 0, 1);
        answers(1, Scene.NOUGHT_DOWN, Call.SIZE, 0, 1);
        Check.sentence("16, How many elements a SET has: all");
        ReplicaStore x = new ReplicaStore();
        for (int element = 31; element >= 0; element--) {
            x.put(2, 0, element);
        }
        due("size", x.size(2, 0), 32);
        x.take(2, 0, 0);
        due("size", x.size(2, 0), 31);
    }

    private static void register() {
        Check.sentence("17, 0 if there is none such");
        answers(7, Scene.BUSY, Call.REGISTER, 2, 0);
        answers(-9, Scene.BUSY, Call.REGISTER, 1, 1);
        wrong(0, Call.REGISTER, 0, NO_REPLICA);
        wrong(0, Call.REGISTER, 1, NO_PAIR);
        for (int no : NO_REPLICA) {
            refuses(0, Scene.BUSY, Call.REGISTER, no, 1);
            refuses(0, Scene.BUSY, Call.REGISTER, no, no);
        }
        Check.sentence("17, 0 at first");
        answers(0, Scene.BUSY, Call.REGISTER, 2, 1);
    }

    private static void length() {
        Check.sentence("18, BAD: no such replica or TEXT");
        wrong(BAD, Call.LENGTH, 0, NO_REPLICA);
        wrong(BAD, Call.LENGTH, 1, NO_PAIR);
        Check.sentence("18, How many characters a TEXT has: none, one, without those taken away");
        answers(0, Scene.BUSY, Call.LENGTH, 0, 1);
        answers(1, Scene.BUSY, Call.LENGTH, 0, 0);
        answers(2, Scene.BUSY, Call.LENGTH, 1, 0);
        Check.sentence("18, How many characters a TEXT has: the most, 60 of each replica");
        ReplicaStore x = new ReplicaStore();
        for (int half = 0; half < 60; half += 30) {
            for (int i = half; i < half + 30; i++) {
                for (int r = 0; r < 4; r++) {
                    due("insert", x.insert(r, 0, i, 'a' + r), i + 1);
                }
            }
            for (int i = 0; i < 30; i++) {
                for (int from = 1; from < 4; from++) {
                    due("comes", x.deliver(from, 0, 0), 1);
                }
            }
        }
        due("length", x.length(0, 0), 240);
        due("characters", x.count(0, 4), 240);
        Check.holds("there is a last one", x.character(0, 0, 239) != NONE);
        due("behind it", x.character(0, 0, 240), NONE);
        due("behind its length", x.insert(0, 0, 241, 'x'), BAD);
        due("at its length, but it had 60", x.insert(0, 0, 240, 'x'), FULL);
    }

    private static void character() {
        Check.sentence("19, NONE if there is none such: place");
        wrong(NONE, Call.CHARACTER, 2, -1, 1, 2, LEAST, MOST);
        answers('b', Scene.BUSY, Call.CHARACTER, 0, 0, 0);
        answers('c', Scene.BUSY, Call.CHARACTER, 1, 0, 1);
        answers(NONE, Scene.BUSY, Call.CHARACTER, 1, 0, 2);
        Check.sentence("19, NONE if there is none such: the TEXT is empty");
        answers(NONE, Scene.BUSY, Call.CHARACTER, 0, 1, 0);
        answers(NONE, Scene.NEW, Call.CHARACTER, 0, 0, 0);
        Check.sentence("19, NONE if there is none such: replica, TEXT");
        wrong(NONE, Call.CHARACTER, 0, NO_REPLICA);
        wrong(NONE, Call.CHARACTER, 1, NO_PAIR);
    }

    // Promises 20 and 21

    private static void clock() {
        Check.sentence("20, BAD: no such replica");
        wrong(BAD, Call.CLOCK, 0, NO_REPLICA);
        wrong(BAD, Call.CLOCK, 1, NO_REPLICA);
        for (int no : NO_REPLICA) {
            refuses(BAD, Scene.BUSY, Call.CLOCK, no, no);
        }
        Check.sentence("20, How many OPERATIONS of replica j a replica has DONE: none, some, all");
        answers(5, Scene.BUSY, Call.CLOCK, 0, 0);
        answers(3, Scene.BUSY, Call.CLOCK, 1, 0);
        answers(0, Scene.BUSY, Call.CLOCK, 2, 1);
        answers(0, Scene.BUSY, Call.CLOCK, 0, 3);
        answers(1, Scene.BUSY, Call.CLOCK, 3, 3);
        answers(60, Scene.SIXTY, Call.CLOCK, 0, 0);
    }

    private static void knows() {
        Check.sentence("21, BAD: no such replica");
        wrong(BAD, Call.KNOWS, 0, NO_REPLICA);
        wrong(BAD, Call.KNOWS, 1, NO_REPLICA);
        wrong(BAD, Call.KNOWS, 2, NO_REPLICA);
        for (int no : NO_REPLICA) {
            refuses(BAD, Scene.BUSY, Call.KNOWS, no, no, 0);
            refuses(BAD, Scene.BUSY, Call.KNOWS, no, no, no);
        }
        Check.sentence("21, What a replica KNOWS: of itself its own");
        answers(5, Scene.BUSY, Call.KNOWS, 0, 0, 0);
        answers(3, Scene.BUSY, Call.KNOWS, 1, 1, 0);
        answers(1, Scene.BUSY, Call.KNOWS, 3, 3, 3);
        Check.sentence("21, What a replica KNOWS: of others, also by what WAITS");
        answers(3, Scene.BUSY, Call.KNOWS, 1, 0, 0);
        answers(3, Scene.BUSY, Call.KNOWS, 2, 1, 1);
        answers(3, Scene.BUSY, Call.KNOWS, 2, 1, 0);
        answers(0, Scene.BUSY, Call.KNOWS, 2, 0, 0);
        answers(0, Scene.BUSY, Call.KNOWS, 0, 1, 0);
    }

    // Promise 22

    private static void count() {
        Check.sentence("22, BAD: no such replica or what");
        wrong(BAD, Call.COUNT, 0, NO_REPLICA);
        wrong(BAD, Call.COUNT, 1, -1, 7, 8, LEAST, MOST);
        right(Call.COUNT, 1, 0, 6);
        Check.sentence("22, each what, 0 .. 6");
        int[][] busy = {{5, 5, 0, 1, 2, 0, 1}, {7, 7, 0, 1, 2, 0, 1}, {1, 1, 1, 1, 0, 2, 1}, {1, 1, 0, 1, 0, 3, 1}};
        for (int r = 0; r < 4; r++) {
            for (int what = 0; what < 7; what++) {
                answers(busy[r][what], Scene.BUSY, Call.COUNT, r, what);
            }
        }
        answers(0, Scene.NOUGHT_DOWN, Call.COUNT, 0, 3);
        answers(1, Scene.NOUGHT_DOWN, Call.COUNT, 1, 3);
        answers(5, Scene.NOUGHT_DOWN, Call.COUNT, 0, 1);
        countOfBothTexts();
        countOfAnEmptyLog();
        countOfTheFullLog();
    }

    private static void countOfBothTexts() {
        Check.sentence("22, characters of both TEXTS, also those taken away");
        ReplicaStore x = new ReplicaStore();
        x.insert(0, 0, 0, 'a');
        due("one", x.count(0, 4), 1);
        x.insert(0, 1, 0, 'b');
        due("one in each", x.count(0, 4), 2);
        x.remove(0, 0, 0);
        x.remove(0, 1, 0);
        due("both taken away", x.count(0, 4), 2);
        due("not where it was not DONE", x.count(1, 4), 0);
    }

    private static void countOfAnEmptyLog() {
        Check.sentence("22, the LOG's first OPERATION (NONE without)");
        for (int r = 0; r < 4; r++) {
            answers(0, Scene.NEW, Call.COUNT, r, 1);
            answers(NONE, Scene.NEW, Call.COUNT, r, 5);
            answers(NONE, Scene.NEW, Call.COUNT, r, 6);
        }
        ReplicaStore x = new ReplicaStore();
        x.add(0, 0, 1);
        due("whose: 0 is not NONE", x.count(0, 5), 0);
        for (int from = 1; from < 4; from++) {
            x.deliver(0, from, 0);
            due("there yet", x.count(0, 1), 1);
            x.tell(from, 0);
            x.deliver(from, 0, 0);
        }
        due("empty again", x.count(0, 1), 0);
        due("whose", x.count(0, 5), NONE);
        due("number", x.count(0, 6), NONE);
        x.add(0, 0, 1);
        due("number", x.count(0, 6), 2);
    }

    private static void countOfTheFullLog() {
        Check.sentence("22, OPERATIONS in its LOG: all 60");
        answers(60, Scene.SIXTY, Call.COUNT, 0, 1);
        answers(60, Scene.SIXTY, Call.COUNT, 0, 0);
        answers(0, Scene.SIXTY, Call.COUNT, 0, 5);
        answers(1, Scene.SIXTY, Call.COUNT, 0, 6);
        answers(10, Scene.SIXTY, Call.COUNT, 0, 4);
    }

    // Promises 23 and 24

    private static void message() {
        Check.sentence("23, BAD: no such WAY");
        noSuchWay(Call.MESSAGE);
        Check.sentence("23, BAD: no such what");
        wrong(BAD, Call.MESSAGE, 3, -1, 8, 9, LEAST, MOST);
        right(Call.MESSAGE, 3, 0, 7);
        Check.sentence("23, NONE: there is none such");
        wrong(NONE, Call.MESSAGE, 2, -1, 2, 3, LEAST, MOST);
        answers(NONE, Scene.THIRTY, Call.MESSAGE, 0, 1, 30, 0);
        answers(1, Scene.THIRTY, Call.MESSAGE, 0, 1, 29, 0);
        Check.sentence("23, NONE: the WAY is empty");
        for (int what = 0; what < 8; what++) {
            answers(NONE, Scene.NEW, Call.MESSAGE, 3, 2, 0, what);
        }
        Check.sentence("23, The first of: BAD, NONE");
        for (int k : new int[] {-1, 2, LEAST, MOST}) {
            refuses(BAD, Scene.BUSY, Call.MESSAGE, 0, 1, k, 8);
            refuses(BAD, Scene.BUSY, Call.MESSAGE, 0, 1, k, -1);
            refuses(BAD, Scene.BUSY, Call.MESSAGE, 0, 0, k, 0);
            refuses(BAD, Scene.BUSY, Call.MESSAGE, 0, 4, k, 0);
        }
        refuses(BAD, Scene.NEW, Call.MESSAGE, 0, 1, 0, 8);
        Check.sentence("23, each what, 0 .. 7, (of others 0)");
        int[][][] want = {
            {{0, 0, 4, 4, 4, 0, 0, 0}, {0, 0, 5, 5, 5, 0, 0, 0}},
            {{0, 2, 1, 1, 0, 0, 1, 0}, {2, 2, 0, 0, 0, 0, 1, 0}},
            {{0, 2, 1, 1, 0, 0, 1, 0}, {1, 2, 0, 0, 0, 0, 1, 0}}
        };
        int[][] ways = {{0, 1}, {2, 0}, {2, 3}};
        for (int w = 0; w < ways.length; w++) {
            for (int k = 0; k < 2; k++) {
                for (int what = 0; what < 8; what++) {
                    answers(want[w][k][what], Scene.BUSY, Call.MESSAGE, ways[w][0], ways[w][1], k, what);
                }
            }
        }
    }

    private static void way() {
        noSuchWay(Call.WAY);
        for (int r = 0; r < 4; r++) {
            refuses(BAD, Scene.BUSY, Call.WAY, r, r);
        }
        for (int no : NO_REPLICA) {
            refuses(BAD, Scene.BUSY, Call.WAY, no, no);
        }
        Check.sentence("24, How many messages are on a WAY: none, some, 30");
        int[][] busy = {{BAD, 2, 5, 5}, {4, BAD, 3, 4}, {2, 1, BAD, 2}, {1, 2, 1, BAD}};
        for (int from = 0; from < 4; from++) {
            for (int to = 0; to < 4; to++) {
                answers(busy[from][to], Scene.BUSY, Call.WAY, from, to);
                answers(from == to ? BAD : 0, Scene.NEW, Call.WAY, from, to);
            }
        }
        answers(30, Scene.THIRTY, Call.WAY, 0, 1);
        answers(0, Scene.THIRTY, Call.WAY, 1, 0);
    }
}
