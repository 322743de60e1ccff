/** Each sentence of the document's terms that names a boundary case: first, last, equal, empty, full, once more. */
public final class TermsBoundariesTest {
    private static final int NONE = -1, DOWN = -4;
    private static final int LEAST = Integer.MIN_VALUE, MOST = Integer.MAX_VALUE;

    private TermsBoundariesTest() {
    }

    public static void main(String[] args) {
        callsUpTo512();
        replicasAreApart();
        upAtFirst();
        operationHasItsOwnClock();
        operationHasTimeAndOne();
        timeOnlyIfGreater();
        sumWrapsAround();
        sumWrapsAroundInAnyOrder();
        putBeforeTake();
        putNotBeforeTake();
        putBehindTake();
        greaterTimeWins();
        equalTimesGreaterReplicaWins();
        insertBehindOneThatWas();
        removeWhatOthersStandBehind();
        removeOfOneTakenAway();
        beginningGreaterMarkFirst();
        equalTimesInATextGreaterReplicaFirst();
        behindEachOneLikewise();
        thirtyOnAWay();
        lostOnOneWayOnly();
        roomOnAWayAgain();
        sentAlsoToThoseDown();
        downWhenAnswered();
        knowsZerosAtFirst();
        knowsOnlyIfGreater();
        knowsAllFour();
        knowsNotOfItself();
        doneOneVanishes();
        waitingOneVanishes();
        readyIsTheNextOne();
        readyNeedsNoMoreThanDone();
        cameFirstOfThoseThatCan();
        answerOfAnEmptyLog();
        answerWhereNothingLacks();
        answerFromTheFirstThatLacks();
        answerOfTwentyNine();
        answerOfThirty();
        answerOnAFullWay();
        logGoesAtOnce();
        logGoesBeforeTheAnswer();
        logWithoutWhatAllHave();
        logKeepsWhatOneMayLack();
        logKeepsWhatAnyOneMayLack();
        Check.end();
    }

    private static void due(String call, int got, int want) {
        Check.due(call, got, want);
    }

    // 240 OPERATIONS, 264 messages that come: the 512 calls of an object.
    private static void callsUpTo512() {
        Check.sentence("An object is used for at most 512 calls");
        ReplicaStore x = new ReplicaStore();
        for (int n = 1; n <= 60; n++) {
            for (int r = 0; r < 4; r++) {
                due("add", x.add(r, 0, r + 1), n);
            }
        }
        for (int i = 0; i < 22; i++) {
            for (int from = 0; from < 4; from++) {
                for (int to = 0; to < 4; to++) {
                    if (from != to) {
                        due("comes", x.deliver(from, to, 0), 1);
                    }
                }
            }
        }
        for (int r = 0; r < 4; r++) {
            due("counter", x.counter(r, 0), 60 * (r + 1) + 22 * (9 - r));
            due("what is left on the WAY", x.way(r, 3 - r), 8);
        }
    }

    // REPLICAS, COUNTERS, SETS, REGISTERS, TEXTS

    private static void replicasAreApart() {
        Check.sentence("REPLICAS are 0 .. 3, each has two COUNTERS, SETS, REGISTERS, TEXTS");
        ReplicaStore x = new ReplicaStore();
        for (int r = 0; r < 4; r++) {
            for (int two = 0; two < 2; two++) {
                int mine = 2 * r + two + 1;
                x.add(r, two, mine);
                x.put(r, two, mine);
                x.write(r, two, mine);
                x.insert(r, two, 0, mine);
            }
        }
        for (int r = 0; r < 4; r++) {
            for (int two = 0; two < 2; two++) {
                int mine = 2 * r + two + 1;
                due("counter", x.counter(r, two), mine);
                due("has", x.has(r, two, mine), 1);
                due("size", x.size(r, two), 1);
                due("register", x.register(r, two), mine);
                due("character", x.character(r, two, 0), mine);
                due("length", x.length(r, two), 1);
            }
        }
    }

    private static void upAtFirst() {
        Check.sentence("each up or down (up at first)");
        for (int r = 0; r < 4; r++) {
            ReplicaStore x = new ReplicaStore();
            due("up", x.count(r, 3), 1);
            due("add", x.add(r, 0, 1), 1);
        }
    }

    // OPERATIONS, CLOCKS, TIMES

    private static void operationHasItsOwnClock() {
        Check.sentence("It has a CLOCK, that of its replica then (itself among them)");
        ReplicaStore x = new ReplicaStore();
        x.add(0, 0, 1);
        x.add(0, 0, 1);
        x.deliver(0, 3, 0);
        x.add(3, 0, 1);
        x.deliver(0, 3, 0);
        x.add(3, 0, 1);
        int[][] clocks = {{1, 0, 0, 1}, {2, 0, 0, 2}};
        for (int k = 0; k < 2; k++) {
            for (int j = 0; j < 4; j++) {
                due("CLOCK " + j + " of message " + k, x.message(3, 1, k, 4 + j), clocks[k][j]);
            }
        }
    }

    private static void operationHasTimeAndOne() {
        Check.sentence("TIME (0 at first): that replica's TIME and 1");
        ReplicaStore x = new ReplicaStore();
        due("at first", x.count(2, 0), 0);
        x.take(2, 0, 0);
        due("the first one's", x.message(2, 0, 0, 3), 1);
        due("TIME", x.count(2, 0), 1);
        x.remove(2, 0, 0);
        due("a refused one has none", x.count(2, 0), 1);
    }

    private static void timeOnlyIfGreater() {
        Check.sentence("TIME becomes its TIME if that is greater");
        ReplicaStore x = new ReplicaStore();
        for (int i = 0; i < 3; i++) {
            x.add(0, 0, 1);
        }
        x.add(1, 0, 1);
        x.add(1, 0, 1);
        int[] times = {2, 2, 3};
        for (int i = 0; i < 3; i++) {
            due("comes", x.deliver(0, 1, 0), 1);
            due("TIME after one of TIME " + (i + 1), x.count(1, 0), times[i]);
        }
        x.add(1, 0, 1);
        due("the next one's TIME", x.message(1, 0, 2, 3), 4);
        x.add(2, 0, 1);
        x.deliver(1, 2, 2);
        due("TIME where it waits", x.count(2, 0), 1);
    }

    // COUNTERS

    private static void sumWrapsAround() {
        Check.sentence("the sum (modulo 2^32) of all that were DONE");
        int[][] sums = {
            {MOST, 1, LEAST}, {LEAST, -1, MOST}, {LEAST, LEAST, 0}, {MOST, MOST, -2}, {-1, 1, 0}, {MOST, LEAST, -1},
            {0, 0, 0}, {LEAST, 0, LEAST}, {1 << 30, 1 << 30, LEAST}
        };
        for (int[] sum : sums) {
            ReplicaStore x = new ReplicaStore();
            due("add", x.add(1, 1, sum[0]), 1);
            due("one", x.counter(1, 1), sum[0]);
            due("add", x.add(1, 1, sum[1]), 2);
            due("two", x.counter(1, 1), sum[2]);
            due("the other COUNTER", x.counter(1, 0), 0);
        }
    }

    private static void sumWrapsAroundInAnyOrder() {
        Check.sentence("the sum (modulo 2^32), in any order");
        ReplicaStore x = new ReplicaStore();
        x.add(0, 0, MOST);
        x.add(1, 0, MOST);
        x.add(2, 0, MOST);
        x.add(3, 0, 7);
        for (int r = 0; r < 4; r++) {
            Moves.allCome(x, r, r % 2 == 0);
            due("counter of " + r, x.counter(r, 0), LEAST + 4);
        }
    }

    // SETS

    private static void putBeforeTake() {
        Check.sentence("no TAKE behind it: a PUT whose number the TAKE's CLOCK just has");
        ReplicaStore x = new ReplicaStore();
        x.add(0, 0, 1);
        x.put(0, 0, 31);
        x.deliver(0, 1, 0);
        x.deliver(0, 1, 0);
        x.take(1, 0, 31);
        due("at 1", x.has(1, 0, 31), 0);
        x.deliver(1, 0, 0);
        due("at 0", x.has(0, 0, 31), 0);
    }

    private static void putNotBeforeTake() {
        Check.sentence("no TAKE behind it: a PUT whose number the TAKE's CLOCK just has not");
        ReplicaStore x = new ReplicaStore();
        x.put(0, 0, 31);
        x.put(0, 0, 31);
        x.deliver(0, 1, 0);
        x.take(1, 0, 31);
        due("the TAKE comes", x.deliver(1, 0, 0), 1);
        due("the second PUT stands at 0", x.has(0, 0, 31), 1);
        due("at 1", x.has(1, 0, 31), 0);
        due("the second PUT comes", x.deliver(0, 1, 0), 1);
        due("it stands at 1", x.has(1, 0, 31), 1);
        due("once", x.size(1, 0), 1);
    }

    private static void putBehindTake() {
        Check.sentence("no TAKE behind it: a TAKE that is BEFORE the PUT");
        ReplicaStore x = new ReplicaStore();
        x.take(0, 1, 0);
        x.deliver(0, 1, 0);
        x.put(1, 1, 0);
        due("at 1", x.has(1, 1, 0), 1);
        due("the PUT waits for the TAKE", x.deliver(1, 2, 0), 0);
        due("both", x.deliver(0, 2, 0), 2);
        due("at 2", x.has(2, 1, 0), 1);
    }

    // REGISTERS and MARKS

    private static void greaterTimeWins() {
        Check.sentence("the greater TIME is the greater MARK");
        ReplicaStore x = new ReplicaStore();
        x.add(0, 0, 1);
        x.write(0, 0, 100);
        x.write(3, 0, 300);
        x.deliver(0, 3, 0);
        due("one of TIME 2 comes to one of TIME 1", x.deliver(0, 3, 0), 1);
        due("at 3", x.register(3, 0), 100);
        due("one of TIME 1 comes to one of TIME 2", x.deliver(3, 0, 0), 1);
        due("at 0", x.register(0, 0), 100);
    }

    private static void equalTimesGreaterReplicaWins() {
        Check.sentence("of equal ones the greater replica");
        ReplicaStore x = new ReplicaStore();
        for (int r = 0; r < 4; r++) {
            x.write(r, 1, 10 - r);
        }
        for (int r = 0; r < 4; r++) {
            Moves.allCome(x, r, false);
            due("at " + r, x.register(r, 1), 7);
            due("the other REGISTER", x.register(r, 0), 0);
        }
    }

    // TEXTS

    private static void insertBehindOneThatWas() {
        Check.sentence("behind another one (one that is in the TEXT, or was)");
        ReplicaStore x = new ReplicaStore();
        x.insert(0, 0, 0, 'a');
        x.insert(0, 0, 1, 'b');
        for (int i = 0; i < 2; i++) {
            x.deliver(0, 1, 0);
        }
        x.remove(0, 0, 1);
        x.remove(0, 0, 0);
        Check.dueText(x, 0, 0, "");
        x.insert(1, 0, 1, 'x');
        x.insert(1, 0, 3, 'y');
        due("behind a, which is gone", x.deliver(1, 0, 0), 1);
        due("behind b, which is gone", x.deliver(1, 0, 0), 1);
        Check.dueText(x, 0, 0, "xy");
        Moves.allCome(x, 1, true);
        Check.dueText(x, 1, 0, "xy");
        due("those taken away count", x.count(1, 4), 4);
    }

    private static void removeWhatOthersStandBehind() {
        Check.sentence("REMOVE takes one away (what was put behind it stays where it is)");
        ReplicaStore x = new ReplicaStore();
        x.insert(0, 1, 0, 'z');
        x.insert(0, 1, 0, 'a');
        x.insert(0, 1, 1, 'b');
        x.insert(0, 1, 2, 'c');
        x.remove(0, 1, 0);
        Check.dueText(x, 0, 1, "bcz");
        x.insert(0, 1, 0, 'q');
        Check.dueText(x, 0, 1, "qbcz");
        Moves.allCome(x, 3, true);
        Check.dueText(x, 3, 1, "qbcz");
    }

    private static void removeOfOneTakenAway() {
        Check.sentence("REMOVE of one that another REMOVE took away");
        ReplicaStore x = new ReplicaStore();
        x.insert(0, 0, 0, 'a');
        x.insert(0, 0, 1, 'b');
        Moves.allCome(x, 1, false);
        x.remove(0, 0, 0);
        due("its own", x.remove(1, 0, 0), 1);
        due("it comes and is DONE", x.deliver(0, 1, 0), 1);
        Check.dueText(x, 1, 0, "b");
        due("both count", x.count(1, 4), 2);
    }

    private static void beginningGreaterMarkFirst() {
        Check.sentence("first those that were put at the beginning, the greater MARK first");
        ReplicaStore x = new ReplicaStore();
        x.insert(3, 0, 0, 'c');
        x.insert(0, 0, 0, 'a');
        x.insert(0, 0, 0, 'b');
        for (int r = 0; r < 4; r++) {
            Moves.allCome(x, r, r == 2);
            Check.dueText(x, r, 0, "bca");
        }
    }

    private static void equalTimesInATextGreaterReplicaFirst() {
        Check.sentence("the greater MARK first: of equal TIMES the greater replica");
        ReplicaStore x = new ReplicaStore();
        for (int r = 0; r < 4; r++) {
            x.insert(r, 0, 0, 'a' + r);
        }
        for (int r = 0; r < 4; r++) {
            Moves.allCome(x, r, true);
            Check.dueText(x, r, 0, "dcba");
        }
    }

    private static void behindEachOneLikewise() {
        Check.sentence("behind each one those that were put behind it, likewise, and so on");
        ReplicaStore x = new ReplicaStore();
        x.insert(0, 0, 0, 'm');
        for (int to = 1; to < 4; to++) {
            x.deliver(0, to, 0);
        }
        for (int r = 0; r < 4; r++) {
            x.insert(r, 0, 1, 'a' + r);
            x.insert(r, 0, 2, 'A' + r);
        }
        x.insert(1, 0, 0, '!');
        for (int r = 0; r < 4; r++) {
            Moves.allCome(x, r, r > 1);
            Check.dueText(x, r, 0, "!mdDcCbBaA");
        }
    }

    // WAYS

    private static void thirtyOnAWay() {
        Check.sentence("at most 30 of them (more are lost), in the order in which they were sent");
        ReplicaStore x = new ReplicaStore();
        for (int n = 1; n <= 32; n++) {
            due("add", x.add(0, 0, 1), n);
            due("way", x.way(0, 1), Math.min(n, 30));
        }
        for (int k = 0; k < 30; k++) {
            due("message " + k, x.message(0, 1, k, 2), k + 1);
        }
        due("message 30", x.message(0, 1, 30, 2), NONE);
        for (int k = 0; k < 30; k++) {
            due("comes", x.deliver(0, 1, 0), 1);
        }
        due("the WAY is empty", x.way(0, 1), 0);
        due("two are lost", x.clock(1, 0), 30);
        due("it has DONE them", x.clock(0, 0), 32);
        due("they are in its LOG", x.count(0, 1), 32);
    }

    private static void lostOnOneWayOnly() {
        Check.sentence("more are lost, on that WAY");
        ReplicaStore x = new ReplicaStore();
        for (int n = 1; n <= 30; n++) {
            x.ask(0, 2);
        }
        due("add", x.add(0, 0, 1), 1);
        due("on a full WAY", x.way(0, 2), 30);
        due("the last one there", x.message(0, 2, 29, 0), 2);
        due("to 1", x.way(0, 1), 1);
        due("to 3", x.way(0, 3), 1);
    }

    private static void roomOnAWayAgain() {
        Check.sentence("at most 30: when one has gone there is room for one");
        ReplicaStore x = new ReplicaStore();
        for (int n = 1; n <= 31; n++) {
            x.add(0, 0, 1);
        }
        due("comes", x.deliver(0, 1, 0), 1);
        x.add(0, 0, 1);
        x.add(0, 0, 1);
        due("way", x.way(0, 1), 30);
        due("the one before the last", x.message(0, 1, 28, 2), 30);
        due("the last one", x.message(0, 1, 29, 2), 32);
    }

    private static void sentAlsoToThoseDown() {
        Check.sentence("sent to all three others (also to those that are down)");
        ReplicaStore x = new ReplicaStore();
        for (int r = 1; r < 4; r++) {
            x.power(r, false);
        }
        due("put", x.put(0, 0, 31), 1);
        for (int r = 1; r < 4; r++) {
            due("way to " + r, x.way(0, r), 1);
            due("it does not come", x.deliver(0, r, 0), DOWN);
            due("it is not DONE there", x.clock(r, 0), 0);
            due("nothing is known there", x.knows(r, 0, 0), 0);
            x.power(r, true);
            due("it comes", x.deliver(0, r, 0), 1);
        }
    }

    private static void downWhenAnswered() {
        Check.sentence("a QUESTION is answered to one that is down, not by one that is down");
        ReplicaStore x = new ReplicaStore();
        x.add(1, 0, 1);
        x.ask(0, 1);
        x.power(1, false);
        due("the QUESTION stays on its WAY", x.deliver(0, 1, 0), DOWN);
        due("there is no answer", x.way(1, 0), 1);
        x.power(1, true);
        x.power(0, false);
        due("the QUESTION comes", x.deliver(0, 1, 0), 0);
        due("the answer is sent", x.way(1, 0), 3);
    }

    // WHAT COMES: CLOCKS

    private static void knowsZerosAtFirst() {
        Check.sentence("it KNOWS a CLOCK of each other one (zeros at first)");
        ReplicaStore x = new ReplicaStore();
        for (int r = 0; r < 4; r++) {
            x.add(r, 0, 1);
        }
        for (int r = 0; r < 4; r++) {
            for (int i = 0; i < 4; i++) {
                for (int j = 0; j < 4; j++) {
                    due("knows(" + r + ", " + i + ", " + j + ")", x.knows(r, i, j), r == i && r == j ? 1 : 0);
                }
            }
        }
    }

    private static void knowsOnlyIfGreater() {
        Check.sentence("becomes that, if it is greater");
        ReplicaStore x = new ReplicaStore();
        x.add(0, 0, 1);
        x.tell(0, 1);
        x.add(0, 0, 1);
        x.tell(0, 1);
        x.copy(0, 1, 3);
        due("the later CLOCK", x.deliver(0, 1, 3), 0);
        due("2 is greater than 0", x.knows(1, 0, 0), 2);
        due("the earlier CLOCK", x.deliver(0, 1, 1), 0);
        due("1 is not greater than 2", x.knows(1, 0, 0), 2);
        due("the equal CLOCK", x.deliver(0, 1, 2), 0);
        due("2 is equal", x.knows(1, 0, 0), 2);
        due("the earlier OPERATION", x.deliver(0, 1, 0), 1);
        due("its 1 is not greater", x.knows(1, 0, 0), 2);
    }

    private static void knowsAllFour() {
        Check.sentence("each number of what it KNOWS of that one (all four)");
        ReplicaStore x = new ReplicaStore();
        for (int r = 0; r < 4; r++) {
            for (int n = 0; n <= r; n++) {
                x.add(r, 0, 1);
            }
        }
        Moves.allCome(x, 1, false);
        x.tell(1, 3);
        x.deliver(1, 3, x.way(1, 3) - 1);
        for (int j = 0; j < 4; j++) {
            due("of replica " + j + "'s", x.knows(3, 1, j), j + 1);
            due("of another one", x.knows(3, 2, j), 0);
        }
        due("its own CLOCK stays", x.clock(3, 2), 0);
    }

    private static void knowsNotOfItself() {
        Check.sentence("not, if that one is itself");
        ReplicaStore x = new ReplicaStore();
        x.ask(0, 1);
        x.add(0, 0, 1);
        x.deliver(0, 1, 1);
        x.deliver(0, 1, 0);
        x.add(0, 0, 1);
        due("its own OPERATION comes", x.deliver(1, 0, 0), 0);
        due("its own CLOCK", x.knows(0, 0, 0), 2);
        due("its next one", x.add(0, 0, 1), 3);
        due("nothing known of the sender by that", x.knows(0, 1, 0), 0);
        due("the CLOCK comes", x.deliver(1, 0, 0), 0);
        due("known of the sender", x.knows(0, 1, 0), 1);
    }

    // WHAT COMES: OPERATIONS

    private static void doneOneVanishes() {
        Check.sentence("An OPERATION that it has DONE vanishes");
        ReplicaStore x = new ReplicaStore();
        x.insert(0, 0, 0, 'a');
        x.add(0, 0, 1);
        for (int i = 0; i < 2; i++) {
            x.copy(0, 1, i);
        }
        due("the first", x.deliver(0, 1, 0), 1);
        due("the second", x.deliver(0, 1, 0), 1);
        due("the first again", x.deliver(0, 1, 0), 0);
        due("the second again", x.deliver(0, 1, 0), 0);
        due("none waits", x.count(1, 2), 0);
        due("once in the LOG", x.count(1, 1), 2);
        due("length", x.length(1, 0), 1);
        due("counter", x.counter(1, 0), 1);
    }

    private static void waitingOneVanishes() {
        Check.sentence("An OPERATION that WAITS there vanishes");
        ReplicaStore x = new ReplicaStore();
        x.add(0, 0, 1);
        x.add(0, 0, 10);
        for (int i = 0; i < 3; i++) {
            x.copy(0, 1, 1);
        }
        for (int i = 0; i < 4; i++) {
            due("the second", x.deliver(0, 1, 1), 0);
            due("it waits once", x.count(1, 2), 1);
        }
        due("both", x.deliver(0, 1, 0), 2);
        due("none waits", x.count(1, 2), 0);
        due("counter", x.counter(1, 0), 11);
    }

    private static void readyIsTheNextOne() {
        Check.sentence("READY is one of replica o if it is the next one of o");
        ReplicaStore x = new ReplicaStore();
        for (int i = 0; i < 4; i++) {
            x.add(0, 0, 1);
        }
        due("the third", x.deliver(0, 1, 2), 0);
        due("the second", x.deliver(0, 1, 1), 0);
        due("the first, the second and the third", x.deliver(0, 1, 0), 3);
        due("the fourth", x.deliver(0, 1, 0), 1);
        due("the second, at another one", x.deliver(0, 2, 1), 0);
        due("the fourth, there", x.deliver(0, 2, 2), 0);
        due("the first and the second, but not the fourth", x.deliver(0, 2, 0), 2);
        due("the fourth waits", x.count(2, 2), 1);
    }

    private static void readyNeedsNoMoreThanDone() {
        Check.sentence("its CLOCK has no more than what was DONE of all others");
        ReplicaStore x = new ReplicaStore();
        x.add(0, 0, 1);
        x.add(0, 0, 1);
        x.deliver(0, 1, 0);
        x.deliver(0, 1, 0);
        x.add(1, 0, 10);
        due("one of 0 is DONE", x.deliver(0, 2, 0), 1);
        due("two are needed", x.deliver(1, 2, 0), 0);
        due("the second of 0", x.deliver(0, 2, 0), 2);
        x.add(0, 0, 100);
        due("three of 0", x.deliver(0, 3, 0) + x.deliver(0, 3, 0) + x.deliver(0, 3, 0), 3);
        due("more than needed", x.deliver(1, 3, 0), 1);
        due("one of 2 that needs both", x.add(2, 0, 1000), 1);
        due("it waits for that of 1", x.deliver(2, 0, 0), 0);
        due("both", x.deliver(1, 0, 0), 2);
    }

    private static void cameFirstOfThoseThatCan() {
        Check.sentence("the one that came first of those that can, also if it just now can");
        // The second one of 1 came first, but cannot before the first one of 1.
        dueOrder(new int[] {1, 0}, true, new int[][] {{1, 1}, {1, 2}, {2, 1}});
        dueOrder(new int[] {1, 0}, false, new int[][] {{2, 1}, {1, 1}, {1, 2}});
        dueOrder(new int[] {0, 0}, true, new int[][] {{1, 1}, {1, 2}, {2, 1}});
    }

    /** To 3 come, before what all of them need, two of 1 and one of 2; the answer to 0 tells the order of the LOG. */
    private static void dueOrder(int[] placesOfOne, boolean oneFirst, int[][] order) {
        ReplicaStore x = new ReplicaStore();
        x.add(0, 0, 1);
        x.deliver(0, 1, 0);
        x.deliver(0, 2, 0);
        x.add(1, 0, 1);
        x.add(1, 0, 1);
        x.add(2, 0, 1);
        if (!oneFirst) {
            due("that of 2 waits", x.deliver(2, 3, 0), 0);
        }
        for (int k : placesOfOne) {
            due("one of 1 waits", x.deliver(1, 3, k), 0);
        }
        if (oneFirst) {
            due("that of 2 waits", x.deliver(2, 3, 0), 0);
        }
        due("all four", x.deliver(0, 3, 0), 4);
        x.ask(0, 3);
        x.deliver(0, 3, 0);
        for (int k = 0; k < order.length; k++) {
            due("whose is " + k + " of the LOG", x.message(3, 0, k, 1), order[k][0]);
            due("number of " + k + " of the LOG", x.message(3, 0, k, 2), order[k][1]);
        }
    }

    // WHAT COMES: QUESTIONS

    private static void answerOfAnEmptyLog() {
        Check.sentence("the answer is all OPERATIONS of the LOG, then its CLOCK: the LOG is empty");
        ReplicaStore x = new ReplicaStore();
        x.ask(2, 1);
        due("the QUESTION comes", x.deliver(2, 1, 0), 0);
        due("one message", x.way(1, 2), 1);
        due("a CLOCK", x.message(1, 2, 0, 0), 1);
        due("of the one that answers", x.message(1, 2, 0, 1), 1);
        due("no other is told", x.way(1, 0) + x.way(1, 3), 0);
    }

    private static void answerWhereNothingLacks() {
        Check.sentence("all that the QUESTION'S CLOCK has not: it has all");
        ReplicaStore x = new ReplicaStore();
        x.add(1, 0, 1);
        x.deliver(1, 2, 0);
        x.ask(2, 1);
        x.deliver(2, 1, 0);
        due("it is in the LOG", x.count(1, 1), 1);
        due("one message", x.way(1, 2), 1);
        due("a CLOCK", x.message(1, 2, 0, 0), 1);
        due("its number", x.message(1, 2, 0, 5), 1);
    }

    private static void answerFromTheFirstThatLacks() {
        Check.sentence("all that the QUESTION'S CLOCK has not, in the order of the LOG");
        ReplicaStore x = new ReplicaStore();
        for (int i = 0; i < 4; i++) {
            x.add(1, 0, 1);
        }
        x.deliver(1, 2, 0);
        x.deliver(1, 2, 0);
        x.lose(1, 2, 0);
        x.lose(1, 2, 0);
        x.ask(2, 1);
        x.deliver(2, 1, 0);
        due("two and the CLOCK", x.way(1, 2), 3);
        due("the third", x.message(1, 2, 0, 2), 3);
        due("the fourth", x.message(1, 2, 1, 2), 4);
        due("the CLOCK", x.message(1, 2, 2, 0), 1);
    }

    /** Replica 0 has so many OPERATIONS, of which nothing came to 1, and the WAY from 0 to 1 has so many messages. */
    private static ReplicaStore asked(int operations, int messages) {
        ReplicaStore x = new ReplicaStore();
        for (int i = 0; i < operations; i++) {
            x.add(0, 0, 1);
        }
        while (x.way(0, 1) > 0) {
            x.lose(0, 1, 0);
        }
        for (int i = 0; i < messages; i++) {
            x.tell(0, 1);
        }
        x.ask(1, 0);
        due("the QUESTION comes", x.deliver(1, 0, 0), 0);
        return x;
    }

    private static void answerOfTwentyNine() {
        Check.sentence("at most 30: an answer of 29 OPERATIONS and the CLOCK");
        ReplicaStore x = asked(29, 0);
        due("way", x.way(0, 1), 30);
        due("the last OPERATION", x.message(0, 1, 28, 2), 29);
        due("the CLOCK", x.message(0, 1, 29, 0), 1);
    }

    private static void answerOfThirty() {
        Check.sentence("at most 30: an answer of 30 OPERATIONS, more are lost");
        ReplicaStore x = asked(30, 0);
        due("way", x.way(0, 1), 30);
        due("no CLOCK", x.message(0, 1, 29, 0), 0);
        due("the last OPERATION", x.message(0, 1, 29, 2), 30);
        x = asked(60, 0);
        due("way", x.way(0, 1), 30);
        due("the first OPERATION", x.message(0, 1, 0, 2), 1);
        due("the last OPERATION", x.message(0, 1, 29, 2), 30);
    }

    private static void answerOnAFullWay() {
        Check.sentence("at most 30: an answer on a WAY that has 29, and 30");
        ReplicaStore x = asked(2, 29);
        due("way", x.way(0, 1), 30);
        due("the first OPERATION", x.message(0, 1, 29, 2), 1);
        x = asked(2, 30);
        due("way", x.way(0, 1), 30);
        due("what was there", x.message(0, 1, 29, 0), 1);
        x = asked(0, 29);
        due("way", x.way(0, 1), 30);
        due("a CLOCK", x.message(0, 1, 29, 0), 1);
        x = asked(0, 30);
        due("way", x.way(0, 1), 30);
        due("the QUESTION has gone", x.way(1, 0), 0);
        due("what it told is known", x.knows(0, 1, 0), 0);
    }

    // THE LOG

    private static void logGoesAtOnce() {
        Check.sentence("such a one goes at once when it is known");
        ReplicaStore x = new ReplicaStore();
        x.add(0, 0, 1);
        x.add(0, 0, 1);
        for (int r = 1; r < 4; r++) {
            x.deliver(0, r, 0);
            x.tell(r, 0);
        }
        int[] left = {2, 2, 1};
        for (int r = 1; r < 4; r++) {
            x.deliver(r, 0, 0);
            due("left after that of " + r, x.count(0, 1), left[r - 1]);
        }
        due("number of the first", x.count(0, 6), 2);
    }

    private static void logGoesBeforeTheAnswer() {
        Check.sentence("at once: the QUESTION that tells it is answered without it");
        ReplicaStore x = new ReplicaStore();
        x.ask(3, 0);
        x.add(0, 0, 1);
        for (int r = 1; r < 4; r++) {
            x.deliver(0, r, 0);
            x.tell(r, 0);
        }
        x.deliver(1, 0, 0);
        x.deliver(2, 0, 0);
        due("the old QUESTION", x.deliver(3, 0, 0), 0);
        due("it is answered with it, and the CLOCK", x.way(0, 3), 2);
        x.deliver(3, 0, 0);
        due("the LOG is empty", x.count(0, 1), 0);
        x.lose(0, 3, 0);
        x.lose(0, 3, 0);
        x.add(0, 0, 1);
        for (int r = 1; r < 4; r++) {
            x.deliver(0, r, 0);
        }
        x.tell(1, 0);
        x.tell(2, 0);
        x.deliver(1, 0, 0);
        x.deliver(2, 0, 0);
        x.ask(3, 0);
        due("there yet", x.count(0, 1), 1);
        due("the QUESTION", x.deliver(3, 0, 0), 0);
        due("it went", x.count(0, 1), 0);
        due("the CLOCK alone", x.way(0, 3), 1);
    }

    private static void logWithoutWhatAllHave() {
        Check.sentence("but those of which it KNOWS that each replica has DONE them (of itself by its CLOCK)");
        ReplicaStore x = new ReplicaStore();
        x.add(0, 0, 1);
        for (int r = 1; r < 3; r++) {
            x.deliver(0, r, 0);
            x.tell(r, 3);
            x.deliver(r, 3, 0);
        }
        due("it comes to the last one", x.deliver(0, 3, 0), 1);
        due("never in its LOG", x.count(3, 1), 0);
        due("NONE", x.count(3, 5), NONE);
        due("NONE", x.count(3, 6), NONE);
        due("it is DONE", x.counter(3, 0), 1);
    }

    private static void logKeepsWhatOneMayLack() {
        Check.sentence("Logs keep what others may lack yet");
        ReplicaStore x = new ReplicaStore();
        x.add(1, 0, 1);
        x.deliver(1, 0, 0);
        x.deliver(1, 2, 0);
        x.deliver(1, 3, 0);
        due("all have it, but 1 does not know it", x.count(1, 1), 1);
        due("nor does 0", x.count(0, 1), 1);
        due("whose", x.count(0, 5), 1);
        x.tell(0, 1);
        x.tell(2, 1);
        x.deliver(0, 1, 0);
        x.deliver(2, 1, 0);
        due("3 may lack it", x.count(1, 1), 1);
        x.tell(3, 1);
        x.power(1, false);
        due("it does not come", x.deliver(3, 1, 0), DOWN);
        due("3 may lack it", x.count(1, 1), 1);
        x.power(1, true);
        x.deliver(3, 1, 0);
        due("no more", x.count(1, 1), 0);
    }

    private static void logKeepsWhatAnyOneMayLack() {
        Check.sentence("that each replica has DONE them: whichever tells it last");
        for (int author = 0; author < 4; author++) {
            for (int last = 0; last < 4; last++) {
                if (last != author) {
                    ReplicaStore x = new ReplicaStore();
                    x.add(author, 0, 1);
                    for (int r = 0; r < 4; r++) {
                        if (r != author && r != last) {
                            x.deliver(author, r, 0);
                            x.tell(r, author);
                            x.deliver(r, author, 0);
                        }
                    }
                    due(last + " may lack that of " + author, x.count(author, 1), 1);
                    x.deliver(author, last, 0);
                    x.tell(last, author);
                    x.deliver(last, author, 0);
                    due("none may lack that of " + author, x.count(author, 1), 0);
                }
            }
        }
    }
}
