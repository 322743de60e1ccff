/** Each promise by hand: ordinary inputs, the edges that the document names, and wrong inputs. */
public final class PromisesTest {
    private static final int NONE = -1, BAD = -2, FULL = -3, DOWN = -4;
    private static final int LEAST = Integer.MIN_VALUE, MOST = Integer.MAX_VALUE;
    private static final int[] NO_REPLICA = {-1, 4, LEAST, MOST};
    private static final int[] NO_PAIR = {-1, 2, LEAST, MOST};
    private static final int[] NO_ELEMENT = {-1, 32, LEAST, MOST};

    private PromisesTest() {
    }

    public static void main(String[] args) {
        newObject();
        objectsAreApart();
        addAnswers();
        counterIsTheSum();
        putAndTake();
        concurrentPutStands();
        onlyCoveredPutsGo();
        writeByMark();
        insertOrder();
        insertBehindOneTakenAway();
        concurrentSubtreesStayTogether();
        removeAnswers();
        removeOfOneByTwo();
        deliverAnswers();
        deliverInCausalOrder();
        deliverOldestReadyFirst();
        deliverTwice();
        copyAnswers();
        copyIsTheSameMessage();
        loseAnswers();
        askAnswers();
        answerToAQuestion();
        answerOverfillsTheWay();
        oldQuestionBringsOwnBack();
        tellAnswers();
        powerAnswers();
        downOrder();
        sixtyOperations();
        thirtyMessages();
        knowsByMessages();
        logShortens();
        logNeverHoldsWhatAllHave();
        countAnswers();
        messageAnswers();
        wayAnswers();
        wrongChanges();
        wrongLooks();
        wrongMoves();
        runOfTheReadme();
        Check.end();
    }

    private static void due(String call, int got, int want) {
        Check.due(call, got, want);
    }

    // 1
    private static void newObject() {
        ReplicaStore x = new ReplicaStore();
        for (int r = 0; r < 4; r++) {
            for (int two = 0; two < 2; two++) {
                due("new counter", x.counter(r, two), 0);
                due("new size", x.size(r, two), 0);
                due("new has", x.has(r, two, 31), 0);
                due("new register", x.register(r, two), 0);
                due("new length", x.length(r, two), 0);
                due("new character", x.character(r, two, 0), NONE);
            }
            int[] counts = {0, 0, 0, 1, 0, NONE, NONE};
            for (int what = 0; what < counts.length; what++) {
                due("new count " + what, x.count(r, what), counts[what]);
            }
            for (int i = 0; i < 4; i++) {
                due("new clock", x.clock(r, i), 0);
                due("new way", x.way(r, i), r == i ? BAD : 0);
                due("new message", x.message(r, i, 0, 0), r == i ? BAD : NONE);
                due("new knows", x.knows(r, i, 3 - i), 0);
            }
        }
    }

    // 1: a new object has nothing of another one, nor takes anything from it
    private static void objectsAreApart() {
        ReplicaStore x = new ReplicaStore();
        x.add(0, 1, 4);
        x.put(0, 0, 4);
        x.write(0, 0, 4);
        x.insert(0, 0, 0, 4);
        x.power(3, false);
        ReplicaStore y = new ReplicaStore();
        y.write(0, 0, 5);
        for (int to = 1; to < 4; to++) {
            due("way of one", x.way(0, to), 4);
            due("way of the other one", y.way(0, to), 1);
        }
        due("counter of one", x.counter(0, 1), 4);
        due("counter of the other one", y.counter(0, 1), 0);
        due("size of one", x.size(0, 0), 1);
        due("size of the other one", y.size(0, 0), 0);
        due("register of one", x.register(0, 0), 4);
        due("register of the other one", y.register(0, 0), 5);
        due("length of one", x.length(0, 0), 1);
        due("length of the other one", y.length(0, 0), 0);
        due("down in one", x.count(3, 3), 0);
        due("up in the other one", y.count(3, 3), 1);
        due("clock of one", x.clock(0, 0), 4);
        due("clock of the other one", y.clock(0, 0), 1);
    }

    // 2
    private static void addAnswers() {
        ReplicaStore x = new ReplicaStore();
        x.power(1, false);
        due("first add, also to one that is down", x.add(3, 1, 5), 1);
        due("second add", x.add(3, 1, -7), 2);
        due("add of another replica", x.add(0, 1, 1), 1);
        due("its counter", x.counter(3, 1), -2);
        due("the other counter", x.counter(3, 0), 0);
        due("where it was not done", x.counter(1, 1), 0);
        for (int to = 0; to < 3; to++) {
            due("sent to " + to, x.message(3, to, 1, 2), 2);
        }
    }

    // 2, 14
    private static void counterIsTheSum() {
        ReplicaStore x = new ReplicaStore();
        x.add(0, 0, MOST);
        x.add(0, 0, 1);
        due("2^31 modulo 2^32", x.counter(0, 0), LEAST);
        x.add(0, 0, LEAST);
        due("2^32 modulo 2^32", x.counter(0, 0), 0);
        x.add(1, 0, LEAST);
        x.add(1, 0, -1);
        due("-2^31 - 1 modulo 2^32", x.counter(1, 0), MOST);
        for (int i = 0; i < 3; i++) {
            due("comes", x.deliver(0, 1, 0), 1);
        }
        due("the sum of all", x.counter(1, 0), MOST);
        due("no such counter", x.counter(0, 2), 0);
        due("no such counter", x.counter(0, -1), 0);
        due("no such replica", x.counter(4, 0), 0);
        due("no such replica", x.counter(-1, 0), 0);
    }

    // 3, 4, 15, 16
    private static void putAndTake() {
        ReplicaStore x = new ReplicaStore();
        due("put", x.put(2, 0, 0), 1);
        due("put", x.put(2, 0, 31), 2);
        due("put again", x.put(2, 0, 31), 3);
        due("size", x.size(2, 0), 2);
        due("size of the other", x.size(2, 1), 0);
        due("has 0", x.has(2, 0, 0), 1);
        due("has 31", x.has(2, 0, 31), 1);
        due("has 30", x.has(2, 0, 30), 0);
        due("has 31 in the other", x.has(2, 1, 31), 0);
        due("take takes both", x.take(2, 0, 31), 4);
        due("has 31", x.has(2, 0, 31), 0);
        due("has 0", x.has(2, 0, 0), 1);
        due("take of one not in it", x.take(2, 1, 0), 5);
        due("still there in the first", x.has(2, 0, 0), 1);
        due("put after take", x.put(2, 0, 31), 6);
        due("has 31", x.has(2, 0, 31), 1);
        for (int element = 0; element < 32; element++) {
            x.put(1, 1, element);
        }
        due("size of all", x.size(1, 1), 32);
    }

    // 3, 4: a TAKE takes only what was BEFORE it
    private static void concurrentPutStands() {
        ReplicaStore x = new ReplicaStore();
        x.put(0, 1, 9);
        x.take(1, 1, 9);
        due("the take comes", x.deliver(1, 0, 0), 1);
        due("it is not behind the put", x.has(0, 1, 9), 1);
        due("the put comes", x.deliver(0, 1, 0), 1);
        due("it is not behind the put", x.has(1, 1, 9), 1);
        due("take behind it", x.take(1, 1, 9), 2);
        due("gone", x.has(1, 1, 9), 0);
        due("the take comes", x.deliver(1, 0, 0), 1);
        due("gone", x.has(0, 1, 9), 0);
    }

    private static void onlyCoveredPutsGo() {
        ReplicaStore x = new ReplicaStore();
        x.put(0, 0, 5);
        x.put(1, 0, 5);
        x.put(1, 0, 6);
        x.deliver(0, 2, 0);
        x.take(2, 0, 5);
        for (int i = 0; i < 2; i++) {
            x.deliver(1, 3, 0);
        }
        x.deliver(2, 3, 0);
        due("the take waits for the put", x.count(3, 2), 1);
        due("the put, then the take", x.deliver(0, 3, 0), 2);
        due("the put of 1 stands", x.has(3, 0, 5), 1);
        due("size", x.size(3, 0), 2);
        due("where the put of 1 has not come", x.has(2, 0, 5), 0);
    }

    // 5, 17
    private static void writeByMark() {
        ReplicaStore x = new ReplicaStore();
        due("write", x.write(0, 0, 10), 1);
        due("write", x.write(1, 0, 20), 1);
        due("write", x.write(1, 1, MOST), 2);
        due("register", x.register(1, 1), MOST);
        x.deliver(0, 1, 0);
        due("equal TIMES, the greater replica stays", x.register(1, 0), 20);
        x.deliver(1, 0, 0);
        due("equal TIMES, the greater replica wins", x.register(0, 0), 20);
        due("TIME stays", x.count(0, 0), 1);
        x.write(0, 0, LEAST);
        x.write(0, 0, -3);
        due("the greater TIME wins", x.register(0, 0), -3);
        x.write(3, 0, 77);
        x.deliver(3, 0, 0);
        due("the greater TIME, not the later one", x.register(0, 0), -3);
        due("TIME does not lessen", x.count(0, 0), 3);
        x.write(0, 0, 0);
        x.write(2, 0, 88);
        x.deliver(2, 0, 0);
        due("what was written may be 0", x.register(0, 0), 0);
        due("the other register", x.register(0, 1), 0);
        due("no such register", x.register(0, 2), 0);
        due("no such register", x.register(0, -1), 0);
        due("no such replica", x.register(4, 0), 0);
        due("no such replica", x.register(-1, 0), 0);
    }

    // 6, 18, 19
    private static void insertOrder() {
        ReplicaStore x = new ReplicaStore();
        due("place behind the end", x.insert(0, 0, 1, 'a'), BAD);
        due("insert", x.insert(0, 0, 0, 'a'), 1);
        due("insert", x.insert(0, 0, 1, 'c'), 2);
        due("insert", x.insert(0, 0, 1, 'b'), 3);
        due("insert", x.insert(0, 0, 0, 1), 4);
        due("insert", x.insert(0, 0, 4, 127), 5);
        due("place behind the end", x.insert(0, 0, 6, 'x'), BAD);
        Check.dueText(x, 0, 0, "\u0001abc\u007f");
        Check.dueText(x, 0, 1, "");
        due("length", x.length(0, 0), 5);
        due("character -1", x.character(0, 0, -1), NONE);
        due("character 5", x.character(0, 0, 5), NONE);
    }

    private static void insertBehindOneTakenAway() {
        ReplicaStore x = new ReplicaStore();
        x.insert(0, 1, 0, 'a');
        x.insert(0, 1, 1, 'b');
        x.deliver(0, 1, 0);
        x.deliver(0, 1, 0);
        x.remove(0, 1, 0);
        x.insert(1, 1, 1, 'x');
        due("the character behind one that is gone", x.deliver(1, 0, 0), 1);
        Check.dueText(x, 0, 1, "xb");
        due("the remove", x.deliver(0, 1, 0), 1);
        Check.dueText(x, 1, 1, "xb");
        due("place 1 is behind x", x.insert(0, 1, 1, 'y'), 4);
        Check.dueText(x, 0, 1, "xyb");
        due("also those taken away", x.count(0, 4), 4);
    }

    private static void concurrentSubtreesStayTogether() {
        ReplicaStore x = new ReplicaStore();
        for (int i = 0; i < 3; i++) {
            x.insert(1, 0, i, 'a' + i);
            x.insert(2, 0, i, 'p' + i);
        }
        x.insert(0, 0, 0, 'Z');
        for (int to = 0; to < 4; to++) {
            for (int from = 3; from >= 0; from--) {
                for (int k = x.way(from, to) - 1; k >= 0; k--) {
                    x.deliver(from, to, k);
                }
            }
            Check.dueText(x, to, 0, "pqrabcZ");
        }
        x.insert(3, 0, 7, '!');
        x.insert(3, 0, 0, '?');
        x.insert(3, 0, 4, '-');
        Check.dueText(x, 3, 0, "?pqr-abcZ!");
    }

    // 7
    private static void removeAnswers() {
        ReplicaStore x = new ReplicaStore();
        due("nothing there", x.remove(1, 0, 0), BAD);
        x.insert(1, 0, 0, 'a');
        x.insert(1, 0, 1, 'b');
        x.insert(1, 0, 2, 'c');
        due("place behind the end", x.remove(1, 0, 3), BAD);
        due("place before the beginning", x.remove(1, 0, -1), BAD);
        due("the other text", x.remove(1, 1, 0), BAD);
        due("remove", x.remove(1, 0, 1), 4);
        Check.dueText(x, 1, 0, "ac");
        due("remove the last", x.remove(1, 0, 1), 5);
        due("gone", x.remove(1, 0, 1), BAD);
        due("remove the first", x.remove(1, 0, 0), 6);
        due("length", x.length(1, 0), 0);
        due("all were there", x.count(1, 4), 3);
        due("at the beginning", x.insert(1, 0, 0, 'd'), 7);
        Check.dueText(x, 1, 0, "d");
    }

    private static void removeOfOneByTwo() {
        ReplicaStore x = new ReplicaStore();
        x.insert(0, 0, 0, 'a');
        x.insert(0, 0, 1, 'b');
        x.deliver(0, 1, 0);
        x.deliver(0, 1, 0);
        x.remove(0, 0, 0);
        x.remove(1, 0, 0);
        due("the other's remove", x.deliver(1, 0, 0), 1);
        due("the other's remove", x.deliver(0, 1, 0), 1);
        Check.dueText(x, 0, 0, "b");
        Check.dueText(x, 1, 0, "b");
    }

    // 8
    private static void deliverAnswers() {
        ReplicaStore x = new ReplicaStore();
        due("nothing there", x.deliver(0, 1, 0), BAD);
        x.add(0, 0, 1);
        x.add(0, 0, 2);
        due("k too great", x.deliver(0, 1, 2), BAD);
        due("k too small", x.deliver(0, 1, -1), BAD);
        due("the same twice", x.deliver(0, 0, 0), BAD);
        x.power(1, false);
        due("k too great, before down", x.deliver(0, 1, 2), BAD);
        due("down", x.deliver(0, 1, 0), DOWN);
        due("it stays", x.way(0, 1), 2);
        x.power(1, true);
        x.power(0, false);
        due("the sender is down", x.deliver(0, 1, 0), 1);
        due("it went", x.way(0, 1), 1);
        due("the second one is the first now", x.message(0, 1, 0, 2), 2);
        due("the others' ways stay", x.way(0, 2), 2);
        due("counter", x.counter(1, 0), 1);
        due("TIME", x.count(1, 0), 1);
    }

    private static void deliverInCausalOrder() {
        ReplicaStore x = new ReplicaStore();
        x.add(0, 0, 1);
        x.deliver(0, 1, 0);
        x.add(1, 0, 10);
        x.deliver(1, 2, 0);
        due("it waits for that of 0", x.count(2, 2), 1);
        due("nothing done", x.counter(2, 0), 0);
        due("but TIME stays", x.count(2, 0), 0);
        due("the clock stays", x.clock(2, 1), 0);
        x.add(2, 0, 100);
        due("the TIME of the new one", x.count(2, 0), 1);
        due("both", x.deliver(0, 2, 0), 2);
        due("none waits", x.count(2, 2), 0);
        due("all", x.counter(2, 0), 111);
        due("what is DONE here is not known of 0", x.knows(2, 0, 1), 0);
        due("TIME", x.count(2, 0), 2);
        x.add(2, 0, 1000);
        due("TIME and 1", x.message(2, 0, 1, 3), 3);
        due("its clock", x.message(2, 0, 1, 4), 1);
        due("its clock", x.message(2, 0, 1, 5), 1);
        due("its clock", x.message(2, 0, 1, 6), 2);
        due("its clock", x.message(2, 0, 1, 7), 0);
    }

    // What came first of those that can is DONE first: the order of the LOG shows it.
    private static void deliverOldestReadyFirst() {
        ReplicaStore x = new ReplicaStore();
        x.add(0, 0, 1);
        x.deliver(0, 1, 0);
        x.deliver(0, 2, 0);
        x.add(2, 0, 4);
        x.add(1, 0, 2);
        x.add(2, 0, 8);
        x.deliver(2, 3, 1);
        x.deliver(2, 3, 0);
        x.deliver(1, 3, 0);
        due("three wait", x.count(3, 2), 3);
        due("all four", x.deliver(0, 3, 0), 4);
        x.ask(0, 3);
        x.deliver(0, 3, 0);
        int[] replicas = {2, 2, 1, 3};
        int[] numbers = {1, 2, 1, 0};
        for (int k = 0; k < 4; k++) {
            due("whose, in the order of the LOG", x.message(3, 0, k, 1), replicas[k]);
            due("number, in the order of the LOG", x.message(3, 0, k, 2), numbers[k]);
        }
    }

    private static void deliverTwice() {
        ReplicaStore x = new ReplicaStore();
        x.add(0, 1, 3);
        x.add(0, 1, 4);
        x.copy(0, 1, 0);
        x.copy(0, 1, 1);
        due("the second waits", x.deliver(0, 1, 1), 0);
        x.power(1, false);
        x.power(1, true);
        due("the second again", x.deliver(0, 1, 2), 0);
        due("it waits once", x.count(1, 2), 1);
        x.power(1, false);
        due("it waits where it is down", x.count(1, 2), 1);
        x.power(1, true);
        due("both", x.deliver(0, 1, 0), 2);
        due("the first again", x.deliver(0, 1, 0), 0);
        due("none waits", x.count(1, 2), 0);
        due("once each", x.counter(1, 1), 7);
        due("all came", x.way(0, 1), 0);
    }

    // 9
    private static void copyAnswers() {
        ReplicaStore x = new ReplicaStore();
        due("nothing there", x.copy(2, 3, 0), BAD);
        x.add(2, 0, 1);
        x.add(2, 0, 1);
        x.power(2, false);
        x.power(3, false);
        due("copy", x.copy(2, 3, 0), 3);
        due("the second one is last", x.message(2, 3, 2, 2), 1);
        due("the first one stays", x.message(2, 3, 0, 2), 1);
        due("k too great", x.copy(2, 3, 3), BAD);
        due("k too small", x.copy(2, 3, -1), BAD);
        due("the same twice", x.copy(2, 2, 0), BAD);
        for (int n = 4; n <= 30; n++) {
            due("copy", x.copy(2, 3, n - 2), n);
        }
        due("thirty", x.copy(2, 3, 0), FULL);
        due("thirty, k too great", x.copy(2, 3, 30), BAD);
        due("thirty", x.way(2, 3), 30);
        x.lose(2, 3, 29);
        due("room again", x.copy(2, 3, 1), 30);
    }

    // What was sent stays as it was sent, though its sender has DONE more since.
    private static void copyIsTheSameMessage() {
        ReplicaStore x = new ReplicaStore();
        x.add(1, 0, 1);
        x.tell(1, 0);
        x.ask(1, 0);
        x.add(1, 0, 1);
        for (int k = 0; k < 3; k++) {
            due("copy", x.copy(1, 0, k), 5 + k);
        }
        for (int k = 0; k < 3; k++) {
            for (int what = 0; what < 8; what++) {
                due("copy of " + k + ", " + what, x.message(1, 0, 4 + k, what), x.message(1, 0, k, what));
            }
        }
        due("its QUESTION's CLOCK", x.message(1, 0, 6, 5), 1);
        due("the copy of the QUESTION comes", x.deliver(1, 0, 6), 0);
        due("it is answered", x.way(0, 1), 1);
        due("the QUESTION comes", x.deliver(1, 0, 2), 0);
        due("it is answered, too", x.way(0, 1), 2);
    }

    // 10
    private static void loseAnswers() {
        ReplicaStore x = new ReplicaStore();
        due("nothing there", x.lose(1, 0, 0), BAD);
        x.add(1, 0, 1);
        x.add(1, 0, 2);
        x.add(1, 0, 4);
        x.power(0, false);
        due("k too great", x.lose(1, 0, 3), BAD);
        due("k too small", x.lose(1, 0, -1), BAD);
        due("the same twice", x.lose(1, 1, 0), BAD);
        due("lose", x.lose(1, 0, 1), 2);
        due("the order stays", x.message(1, 0, 0, 2), 1);
        due("the order stays", x.message(1, 0, 1, 2), 3);
        x.power(0, true);
        due("the first", x.deliver(1, 0, 0), 1);
        due("the third waits", x.deliver(1, 0, 0), 0);
        due("one counts", x.counter(0, 0), 1);
    }

    // 11
    private static void askAnswers() {
        ReplicaStore x = new ReplicaStore();
        x.add(0, 0, 1);
        x.power(3, false);
        due("to one that is down", x.ask(0, 3), 2);
        due("from one that is down", x.ask(3, 0), DOWN);
        due("to itself, though down", x.ask(3, 3), BAD);
        due("nothing was sent", x.way(3, 0), 0);
        due("ask", x.ask(0, 1), 2);
        int[] want = {2, 0, 0, 0, 1, 0, 0, 0};
        for (int what = 0; what < want.length; what++) {
            due("the question's " + what, x.message(0, 1, 1, what), want[what]);
        }
        x.add(0, 0, 1);
        due("its clock is of then", x.message(0, 1, 1, 4), 1);
        due("a question does nothing there", x.deliver(0, 1, 1), 0);
        due("clock", x.clock(1, 0), 0);
        due("knows by it", x.knows(1, 0, 0), 1);
    }

    private static void answerToAQuestion() {
        ReplicaStore x = new ReplicaStore();
        x.add(0, 0, 1);
        x.add(0, 0, 2);
        x.deliver(0, 1, 0);
        x.deliver(0, 1, 0);
        x.add(1, 0, 4);
        x.lose(1, 2, 0);
        x.deliver(0, 2, 0);
        x.lose(0, 2, 0);
        x.ask(2, 1);
        x.power(2, false);
        due("the question comes", x.deliver(2, 1, 0), 0);
        due("two and the clock, also to one that is down", x.way(1, 2), 3);
        int[][] want = {{0, 0, 2, 2, 2, 0, 0, 0}, {0, 1, 1, 3, 2, 1, 0, 0}, {1, 1, 0, 0, 2, 1, 0, 0}};
        for (int k = 0; k < 3; k++) {
            for (int what = 0; what < 8; what++) {
                due("answer " + k + ", " + what, x.message(1, 2, k, what), want[k][what]);
            }
        }
        x.power(2, true);
        due("knows of the asking one", x.knows(1, 2, 0), 1);
        due("comes", x.deliver(1, 2, 0), 1);
        due("known of whose it is", x.knows(2, 0, 0), 2);
        due("not of who sent it", x.knows(2, 1, 0), 0);
        due("comes", x.deliver(1, 2, 0), 1);
        due("the clock", x.deliver(1, 2, 0), 0);
        due("counter", x.counter(2, 0), 7);
    }

    private static void answerOverfillsTheWay() {
        ReplicaStore x = new ReplicaStore();
        for (int i = 0; i < 32; i++) {
            x.add(0, 0, 1);
        }
        for (int i = 0; i < 4; i++) {
            x.lose(0, 1, 0);
        }
        x.ask(1, 0);
        due("the question comes", x.deliver(1, 0, 0), 0);
        due("the way is full", x.way(0, 1), 30);
        due("the first of the LOG", x.message(0, 1, 26, 2), 1);
        due("the fourth of the LOG", x.message(0, 1, 29, 2), 4);
        due("no clock", x.message(0, 1, 29, 0), 0);
    }

    private static void oldQuestionBringsOwnBack() {
        ReplicaStore x = new ReplicaStore();
        x.ask(0, 1);
        x.add(0, 0, 1);
        due("the operation first", x.deliver(0, 1, 1), 1);
        due("then the old question", x.deliver(0, 1, 0), 0);
        due("its own operation comes back", x.message(1, 0, 0, 1), 0);
        due("it vanishes", x.deliver(1, 0, 0), 0);
        due("once", x.counter(0, 0), 1);
        due("none waits", x.count(0, 2), 0);
        due("of itself its own", x.knows(0, 0, 0), 1);
    }

    // 12
    private static void tellAnswers() {
        ReplicaStore x = new ReplicaStore();
        x.add(1, 0, 1);
        x.power(2, false);
        due("to one that is down", x.tell(1, 2), 2);
        due("from one that is down", x.tell(2, 1), DOWN);
        due("to itself", x.tell(1, 1), BAD);
        due("tell", x.tell(1, 0), 2);
        int[] want = {1, 1, 0, 0, 0, 1, 0, 0};
        for (int what = 0; what < want.length; what++) {
            due("the clock's " + what, x.message(1, 0, 1, what), want[what]);
        }
        due("a clock does nothing", x.deliver(1, 0, 1), 0);
        due("no answer", x.way(0, 1), 0);
        due("knows by it", x.knows(0, 1, 1), 1);
        due("clock", x.clock(0, 1), 0);
    }

    // 13
    private static void powerAnswers() {
        ReplicaStore x = new ReplicaStore();
        x.add(1, 0, 6);
        x.put(1, 0, 6);
        x.insert(1, 0, 0, 'a');
        due("was up", x.power(1, false), 1);
        due("was down", x.power(1, false), 0);
        due("whether it is up", x.count(1, 3), 0);
        due("the others are", x.count(0, 3), 1);
        due("what it has stays", x.counter(1, 0), 6);
        due("what it has stays", x.has(1, 0, 6), 1);
        due("what it has stays", x.length(1, 0), 1);
        due("what it has stays", x.clock(1, 1), 3);
        due("what it has stays", x.count(1, 1), 3);
        due("what was sent stays", x.way(1, 0), 3);
        due("was down", x.power(1, true), 0);
        due("was up", x.power(1, true), 1);
        due("goes on", x.add(1, 0, 1), 4);
        for (int no : NO_REPLICA) {
            due("no such replica", x.power(no, true), BAD);
        }
    }

    // BAD, then DOWN, then FULL
    private static void downOrder() {
        ReplicaStore x = new ReplicaStore();
        x.insert(0, 0, 0, 'a');
        x.power(0, false);
        due("add", x.add(0, 0, 1), DOWN);
        due("put", x.put(0, 0, 1), DOWN);
        due("take", x.take(0, 0, 1), DOWN);
        due("write", x.write(0, 0, 1), DOWN);
        due("insert", x.insert(0, 0, 1, 1), DOWN);
        due("remove", x.remove(0, 0, 0), DOWN);
        due("add", x.add(0, 2, 1), BAD);
        due("put", x.put(0, 0, 32), BAD);
        due("take", x.take(0, 0, 32), BAD);
        due("write", x.write(0, 2, 1), BAD);
        due("insert", x.insert(0, 0, 2, 1), BAD);
        due("remove", x.remove(0, 0, 1), BAD);
        due("nothing was done", x.clock(0, 0), 1);
        due("nothing was sent", x.way(0, 1), 1);
    }

    private static void sixtyOperations() {
        ReplicaStore x = new ReplicaStore();
        x.insert(0, 0, 0, 'a');
        for (int n = 2; n <= 60; n++) {
            due("add", x.add(0, 0, 1), n);
        }
        due("add", x.add(0, 0, 1), FULL);
        due("put", x.put(0, 0, 1), FULL);
        due("take", x.take(0, 0, 1), FULL);
        due("write", x.write(0, 0, 1), FULL);
        due("insert", x.insert(0, 0, 0, 1), FULL);
        due("remove", x.remove(0, 0, 0), FULL);
        due("add", x.add(0, 2, 1), BAD);
        due("insert", x.insert(0, 0, 2, 1), BAD);
        due("nothing was done", x.counter(0, 0), 59);
        due("clock", x.clock(0, 0), 60);
        due("TIME", x.count(0, 0), 60);
        due("the others go on", x.add(1, 0, 1), 1);
        x.power(0, false);
        due("down before full", x.add(0, 0, 1), DOWN);
    }

    private static void thirtyMessages() {
        ReplicaStore x = new ReplicaStore();
        for (int n = 1; n <= 29; n++) {
            due("tell", x.tell(2, 0), n);
        }
        due("the thirtieth", x.add(2, 0, 1), 1);
        due("thirty", x.way(2, 0), 30);
        due("it is lost on a full way", x.add(2, 0, 1), 2);
        due("still thirty", x.way(2, 0), 30);
        due("the last one", x.message(2, 0, 29, 2), 1);
        due("not on the others", x.way(2, 1), 2);
        due("tell", x.tell(2, 0), FULL);
        due("ask", x.ask(2, 0), FULL);
        due("nothing was sent", x.way(2, 0), 30);
        x.power(2, false);
        due("down before full", x.tell(2, 0), DOWN);
        due("down before full", x.ask(2, 0), DOWN);
        x.power(2, true);
        x.lose(2, 0, 0);
        due("room again", x.ask(2, 0), 30);
    }

    // 20, 21
    private static void knowsByMessages() {
        ReplicaStore x = new ReplicaStore();
        x.add(0, 0, 1);
        x.deliver(0, 1, 0);
        x.add(1, 0, 1);
        x.tell(1, 2);
        x.add(1, 0, 1);
        due("the later one first", x.deliver(1, 2, 2), 0);
        due("known though it waits", x.knows(2, 1, 1), 2);
        due("all four numbers", x.knows(2, 1, 0), 1);
        due("not of the others", x.knows(2, 0, 0), 0);
        due("not its own", x.knows(2, 2, 1), 0);
        due("an older clock", x.deliver(1, 2, 1), 0);
        due("does not lessen it", x.knows(2, 1, 1), 2);
        due("of itself its own", x.knows(1, 1, 0), 1);
        due("clock", x.clock(1, 0), 1);
        due("clock", x.clock(1, 1), 2);
        due("clock", x.clock(0, 1), 0);
    }

    // 22: the LOG
    private static void logShortens() {
        ReplicaStore x = new ReplicaStore();
        x.add(0, 0, 1);
        x.add(0, 0, 2);
        for (int to = 1; to < 4; to++) {
            x.deliver(0, to, 0);
        }
        due("two", x.count(0, 1), 2);
        x.tell(1, 0);
        x.tell(2, 0);
        x.deliver(1, 0, 0);
        x.deliver(2, 0, 0);
        due("3 may lack it yet", x.count(0, 1), 2);
        due("the first", x.count(0, 6), 1);
        x.add(3, 0, 4);
        due("an operation's clock tells it, too", x.deliver(3, 0, 0), 1);
        due("the first went, that of 3 came", x.count(0, 1), 2);
        due("whose", x.count(0, 5), 0);
        due("number", x.count(0, 6), 2);
        x.deliver(3, 1, 0);
        due("whose", x.count(1, 5), 0);
        due("number", x.count(1, 6), 1);
        x.tell(2, 1);
        x.deliver(2, 1, 0);
        due("it went at 1", x.count(1, 5), 3);
        due("it went at 1", x.count(1, 6), 1);
        due("one is left", x.count(1, 1), 1);
        due("the counter keeps it", x.counter(1, 0), 5);
        x.add(2, 0, 0);
        x.copy(2, 3, 0);
        x.tell(1, 3);
        x.deliver(1, 3, 0);
        x.deliver(2, 3, 0);
        due("a clock and an operation told it", x.count(3, 1), 2);
        due("whose", x.count(3, 5), 3);
    }

    private static void logNeverHoldsWhatAllHave() {
        ReplicaStore x = new ReplicaStore();
        x.add(0, 0, 1);
        x.deliver(0, 1, 0);
        x.deliver(0, 2, 0);
        x.tell(1, 3);
        x.tell(2, 3);
        x.deliver(1, 3, 0);
        x.deliver(2, 3, 0);
        due("the last one gets it", x.deliver(0, 3, 0), 1);
        due("and keeps nothing", x.count(3, 1), 0);
        due("whose", x.count(3, 5), NONE);
        due("number", x.count(3, 6), NONE);
        due("DONE", x.counter(3, 0), 1);
        x.tell(3, 1);
        x.tell(2, 1);
        x.deliver(3, 1, 0);
        due("2 may lack it yet", x.count(1, 1), 1);
        x.deliver(2, 1, 0);
        due("it went", x.count(1, 1), 0);
        x.ask(0, 1);
        x.deliver(0, 1, 0);
        due("the answer is the clock alone", x.way(1, 0), 1);
        due("the answer is the clock alone", x.message(1, 0, 0, 0), 1);
    }

    // 22
    private static void countAnswers() {
        ReplicaStore x = new ReplicaStore();
        x.insert(1, 0, 0, 'a');
        x.insert(1, 1, 0, 'b');
        x.remove(1, 0, 0);
        x.add(0, 0, 1);
        x.deliver(1, 0, 1);
        int[] ofOne = {3, 3, 0, 1, 2, 1, 1};
        int[] ofNought = {1, 1, 1, 1, 0, 0, 1};
        for (int what = 0; what < 7; what++) {
            due("count(1, " + what + ")", x.count(1, what), ofOne[what]);
            due("count(0, " + what + ")", x.count(0, what), ofNought[what]);
        }
        for (int what : new int[] {-1, 7, LEAST, MOST}) {
            due("no such what", x.count(0, what), BAD);
        }
    }

    // 23
    private static void messageAnswers() {
        ReplicaStore x = new ReplicaStore();
        x.add(3, 0, 1);
        x.deliver(3, 0, 0);
        x.add(0, 0, 1);
        x.tell(0, 2);
        x.ask(0, 2);
        int[][] want = {{0, 0, 1, 2, 1, 0, 0, 1}, {1, 0, 0, 0, 1, 0, 0, 1}, {2, 0, 0, 0, 1, 0, 0, 1}};
        for (int k = 0; k < want.length; k++) {
            for (int what = 0; what < 8; what++) {
                due("message(0, 2, " + k + ", " + what + ")", x.message(0, 2, k, what), want[k][what]);
            }
        }
        for (int what : new int[] {-1, 8, LEAST, MOST}) {
            due("no such what", x.message(0, 2, 0, what), BAD);
            due("no such what comes before no such k", x.message(0, 2, 3, what), BAD);
        }
        for (int k : new int[] {-1, 3, LEAST, MOST}) {
            due("no such k", x.message(0, 2, k, 0), NONE);
            due("no such way comes before no such k", x.message(2, 2, k, 0), BAD);
        }
    }

    // 24
    private static void wayAnswers() {
        ReplicaStore x = new ReplicaStore();
        x.add(2, 0, 1);
        x.tell(2, 3);
        int[] want = {1, 1, BAD, 2};
        for (int i = 0; i < 4; i++) {
            due("way(2, " + i + ")", x.way(2, i), want[i]);
            due("way(" + i + ", 2)", x.way(i, 2), i == 2 ? BAD : 0);
            due("to itself", x.way(i, i), BAD);
        }
    }

    private static void wrongChanges() {
        ReplicaStore x = new ReplicaStore();
        x.insert(0, 0, 0, 'a');
        for (int no : NO_REPLICA) {
            due("add", x.add(no, 0, 0), BAD);
            due("put", x.put(no, 0, 0), BAD);
            due("take", x.take(no, 0, 0), BAD);
            due("write", x.write(no, 0, 0), BAD);
            due("insert", x.insert(no, 0, 0, 1), BAD);
            due("remove", x.remove(no, 0, 0), BAD);
        }
        for (int no : NO_PAIR) {
            due("add", x.add(0, no, 0), BAD);
            due("put", x.put(0, no, 0), BAD);
            due("take", x.take(0, no, 0), BAD);
            due("write", x.write(0, no, 0), BAD);
            due("insert", x.insert(0, no, 0, 1), BAD);
            due("insert", x.insert(0, 0, no, 1), BAD);
            due("remove", x.remove(0, no, 0), BAD);
            due("remove", x.remove(0, 0, no), BAD);
        }
        for (int no : NO_ELEMENT) {
            due("put", x.put(0, 0, no), BAD);
            due("take", x.take(0, 0, no), BAD);
        }
        for (int no : new int[] {-1, 0, 128, LEAST, MOST}) {
            due("insert", x.insert(0, 0, 0, no), BAD);
        }
        due("nothing was done", x.clock(0, 0), 1);
        due("nothing was sent", x.way(0, 1), 1);
    }

    private static void wrongLooks() {
        ReplicaStore x = new ReplicaStore();
        x.insert(0, 0, 0, 'a');
        for (int no : NO_REPLICA) {
            due("counter", x.counter(no, 0), 0);
            due("has", x.has(no, 0, 0), BAD);
            due("size", x.size(no, 0), BAD);
            due("register", x.register(no, 0), 0);
            due("length", x.length(no, 0), BAD);
            due("character", x.character(no, 0, 0), NONE);
            due("clock", x.clock(no, 0), BAD);
            due("clock", x.clock(0, no), BAD);
            due("knows", x.knows(no, 0, 0), BAD);
            due("knows", x.knows(0, no, 0), BAD);
            due("knows", x.knows(0, 0, no), BAD);
            due("count", x.count(no, 0), BAD);
        }
        for (int no : NO_PAIR) {
            due("counter", x.counter(0, no), 0);
            due("has", x.has(0, no, 0), BAD);
            due("size", x.size(0, no), BAD);
            due("register", x.register(0, no), 0);
            due("length", x.length(0, no), BAD);
            due("character", x.character(0, no, 0), NONE);
            due("character", x.character(0, 0, no), NONE);
        }
        for (int no : NO_ELEMENT) {
            due("has", x.has(0, 0, no), BAD);
        }
    }

    private static void wrongMoves() {
        ReplicaStore x = new ReplicaStore();
        for (int r = 0; r < 4; r++) {
            x.add(r, 0, 1);
        }
        for (int no : NO_REPLICA) {
            due("deliver", x.deliver(no, 0, 0), BAD);
            due("deliver", x.deliver(0, no, 0), BAD);
            due("copy", x.copy(no, 0, 0), BAD);
            due("copy", x.copy(0, no, 0), BAD);
            due("lose", x.lose(no, 0, 0), BAD);
            due("lose", x.lose(0, no, 0), BAD);
            due("ask", x.ask(no, 0), BAD);
            due("ask", x.ask(0, no), BAD);
            due("tell", x.tell(no, 0), BAD);
            due("tell", x.tell(0, no), BAD);
            due("message", x.message(no, 0, 0, 0), BAD);
            due("message", x.message(0, no, 0, 0), BAD);
            due("way", x.way(no, 0), BAD);
            due("way", x.way(0, no), BAD);
        }
        for (int k : new int[] {LEAST, MOST, 1, -1}) {
            due("deliver", x.deliver(0, 1, k), BAD);
            due("copy", x.copy(0, 1, k), BAD);
            due("lose", x.lose(0, 1, k), BAD);
        }
        for (int r = 0; r < 4; r++) {
            due("to itself", x.deliver(r, r, 0), BAD);
            due("nothing was lost", x.way(r, 3 - r), 1);
        }
    }

    private static void runOfTheReadme() {
        ReplicaStore store = new ReplicaStore();
        due("insert", store.insert(0, 0, 0, 'a'), 1);
        due("way", store.way(0, 1), 1);
        due("deliver", store.deliver(0, 1, 0), 1);
        due("character", store.character(1, 0, 0), 'a');
        due("lose", store.lose(0, 2, 0), 0);
        due("ask", store.ask(2, 1), 1);
        due("the question comes", store.deliver(2, 1, 0), 0);
        due("the answer comes", store.deliver(1, 2, 0), 1);
        Check.dueText(store, 2, 0, "a");
    }
}
