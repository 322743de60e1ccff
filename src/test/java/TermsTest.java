/** The document's terms from their first sentence to their last one, each by an ordinary run that would show it broken. */
public final class TermsTest {
    private static final int OPERATION = 0, CLOCK = 1, QUESTION = 2;

    private TermsTest() {
    }

    public static void main(String[] args) {
        changesItsOwnAtOnce();
        logsKeepNoMore();
        replicasAreUpOrDown();
        eachHasTwoOfAll();
        clockIsWhatWasDone();
        operationsAreNumbered();
        operationsAreUpToSixty();
        operationIsDoneAtOnce();
        operationHasClockAndTime();
        oneIsBeforeAnother();
        timeFollowsWhatIsDone();
        markIsTimeThenReplica();
        counterIsTheSum();
        elementIsInWherePutStands();
        takeIsOfOneElementOfOneSet();
        registerIsOfTheGreatestMark();
        insertPutsBehindAnother();
        removeTakesOneAway();
        textHasItsOrder();
        takenAwayArePassedOver();
        messagesAreOnAWay();
        messagesAreOfThreeKinds();
        newOneIsSentToAllOthers();
        onlyNewOnesAreSent();
        knowsOfItselfItsOwn();
        knowsByWhatCame();
        knowsByAnOperationOfWhoseItIs();
        knowsFirstThenDoes();
        whatIsDoneOrWaitsVanishes();
        whatAnotherOneSentVanishesToo();
        anyOtherOneWaits();
        waitingOneDoesNothingYet();
        eachThatIsReadyIsDone();
        readyByItsReplicaAndItsClock();
        questionIsAnswered();
        answerEndsWithTheAnsweringClock();
        clockIsNotAnswered();
        logIsInTheOrderOfDoing();
        logIsShortenedWithinToo();
        logIsShortenedByOperationsToo();
        Check.end();
    }

    private static void due(String call, int got, int want) {
        Check.due(call, got, want);
    }

    private static void dueMessage(ReplicaStore x, int from, int to, int k, int... want) {
        for (int what = 0; what < want.length; what++) {
            due("message(" + from + ", " + to + ", " + k + ", " + what + ")", x.message(from, to, k, what), want[what]);
        }
    }

    private static void dueClock(ReplicaStore x, int replica, int... want) {
        for (int j = 0; j < want.length; j++) {
            due("clock(" + replica + ", " + j + ")", x.clock(replica, j), want[j]);
        }
    }

    private static void dueKnown(ReplicaStore x, int replica, int i, int... want) {
        for (int j = 0; j < want.length; j++) {
            due("knows(" + replica + ", " + i + ", " + j + ")", x.knows(replica, i, j), want[j]);
        }
    }

    /** Each ADD of the LOG, as replica and number, is seen in the answer to one that has nothing. */
    private static void dueLog(ReplicaStore x, int replica, int asking, int[]... want) {
        due("OPERATIONS in the LOG of " + replica, x.count(replica, 1), want.length);
        int first = x.way(replica, asking);
        due("the old QUESTION comes", x.deliver(asking, replica, 0), 0);
        for (int i = 0; i < want.length; i++) {
            dueMessage(x, replica, asking, first + i, OPERATION, want[i][0], want[i][1]);
        }
        due("then the CLOCK", x.message(replica, asking, first + want.length, 0), CLOCK);
        due("and no more", x.way(replica, asking), first + want.length + 1);
    }

    // What it is

    private static void changesItsOwnAtOnce() {
        Check.sentence("each changes its own at once and tells the others");
        ReplicaStore x = new ReplicaStore();
        x.add(2, 0, 9);
        x.put(2, 1, 4);
        x.write(2, 1, 8);
        x.insert(2, 0, 0, 'k');
        for (int r = 0; r < 4; r++) {
            int own = r == 2 ? 1 : 0;
            due("counter of " + r, x.counter(r, 0), 9 * own);
            due("has of " + r, x.has(r, 1, 4), own);
            due("register of " + r, x.register(r, 1), 8 * own);
            due("length of " + r, x.length(r, 0), own);
            if (own == 0) {
                due("told", x.way(2, r), 4);
            }
        }
    }

    // Logs keep what others may lack yet, and no more

    // By its OPERATIONS a replica has told that it has those; so what is of the last one goes before that one tells.
    private static void logsKeepNoMore() {
        Check.sentence("Logs keep what others may lack yet, and no more");
        ReplicaStore x = new ReplicaStore();
        for (int r = 0; r < 4; r++) {
            x.add(r, 0, 1);
            x.add(r, 0, 1);
        }
        for (int r = 0; r < 4; r++) {
            due("what all others lack", x.count(r, 1), 2);
            Moves.allCome(x, r, false);
            due("what it does not know that others have", x.count(r, 1), 8);
        }
        int[] kept = {8, 8, 6};
        for (int to = 0; to < 4; to++) {
            for (int told = 0; told < 3; told++) {
                due("so many have told that they have all: " + told, x.count(to, 1), kept[told]);
                Moves.tellAtOnce(x, (to + 1 + told) % 4, to);
            }
            due("all have told that they have all", x.count(to, 1), 0);
            due("what was DONE stays", x.counter(to, 0), 8);
        }
    }

    // REPLICAS and what each has

    private static void replicasAreUpOrDown() {
        Check.sentence("REPLICAS are 0 .. 3, each up or down (up at first)");
        ReplicaStore x = new ReplicaStore();
        x.power(1, false);
        x.power(3, false);
        for (int r = 0; r < 4; r++) {
            due("up", x.count(r, 3), 1 - r % 2);
            due("add", x.add(r, 0, 1), r % 2 == 0 ? 1 : ReplicaStore.DOWN);
        }
        due("no fifth", x.count(4, 3), ReplicaStore.BAD);
    }

    private static void eachHasTwoOfAll() {
        Check.sentence("Each has two COUNTERS, two SETS, two REGISTERS (0 at first), two TEXTS");
        ReplicaStore x = new ReplicaStore();
        for (int two = 0; two < 2; two++) {
            int mine = 20 + two;
            due("register at first", x.register(1, two), 0);
            x.add(1, two, mine);
            x.put(1, two, mine);
            x.write(1, two, mine);
            x.insert(1, two, 0, mine);
        }
        Moves.allCome(x, 3, true);
        for (int two = 0; two < 2; two++) {
            int mine = 20 + two;
            due("counter", x.counter(3, two), mine);
            due("has", x.has(3, two, mine), 1);
            due("has that of the other SET", x.has(3, 1 - two, mine), 0);
            due("register", x.register(3, two), mine);
            due("character", x.character(3, two, 0), mine);
            due("length", x.length(3, two), 1);
            due("no third", x.add(1, 2 + two, 1), ReplicaStore.BAD);
        }
    }

    private static void clockIsWhatWasDone() {
        Check.sentence("a CLOCK (four numbers: how many OPERATIONS of each replica it has DONE)");
        ReplicaStore x = new ReplicaStore();
        for (int i = 0; i < 3; i++) {
            x.add(0, 0, 1);
            x.put(3, 0, i);
        }
        x.take(1, 0, 0);
        x.deliver(0, 1, 0);
        x.deliver(0, 1, 0);
        x.deliver(3, 1, 0);
        x.deliver(3, 1, 1);
        dueClock(x, 1, 2, 1, 0, 1);
        dueClock(x, 0, 3, 0, 0, 0);
        dueClock(x, 2, 0, 0, 0, 0);
        dueClock(x, 3, 0, 0, 0, 3);
    }

    // OPERATIONS

    private static void operationsAreNumbered() {
        Check.sentence("AN OPERATION of a replica is numbered from 1 on, whatever its kind");
        ReplicaStore x = new ReplicaStore();
        due("of another replica", x.add(0, 0, 1), 1);
        x.deliver(0, 1, 0);
        due("insert", x.insert(1, 0, 0, 'a'), 1);
        due("remove", x.remove(1, 0, 0), 2);
        due("put", x.put(1, 0, 0), 3);
        due("take", x.take(1, 0, 0), 4);
        due("write", x.write(1, 0, 0), 5);
        due("add", x.add(1, 0, 0), 6);
        for (int k = 0; k < 6; k++) {
            dueMessage(x, 1, 2, k, OPERATION, 1, k + 1);
        }
    }

    private static void operationsAreUpToSixty() {
        Check.sentence("AN OPERATION of a replica, up to 60 of each, whatever its kind");
        ReplicaStore x = new ReplicaStore();
        for (int n = 1; n <= 60; n++) {
            int number = n % 2 == 0 ? x.put(1, 0, n % 32) : x.insert(1, 0, 0, n);
            due("operation", number, n);
            x.lose(1, 0, 0);
        }
        due("a 61st", x.add(1, 0, 1), ReplicaStore.FULL);
        due("is not DONE", x.counter(1, 0), 0);
        due("and not sent", x.way(1, 0), 0);
        due("one of another replica", x.add(0, 0, 1), 1);
        due("comes", x.deliver(0, 1, 0), 1);
        dueClock(x, 1, 1, 60, 0, 0);
    }

    private static void operationIsDoneAtOnce() {
        Check.sentence("it is DONE there at once");
        ReplicaStore x = new ReplicaStore();
        x.power(0, false);
        x.power(1, false);
        x.power(3, false);
        x.add(2, 1, -4);
        due("counter", x.counter(2, 1), -4);
        due("clock", x.clock(2, 2), 1);
        due("TIME", x.count(2, 0), 1);
        due("LOG", x.count(2, 1), 1);
        due("none waits", x.count(2, 2), 0);
    }

    private static void operationHasClockAndTime() {
        Check.sentence("It has a CLOCK, that of its replica then (itself among them), and a TIME: that replica's TIME and 1");
        ReplicaStore x = new ReplicaStore();
        x.add(0, 0, 1);
        x.add(0, 0, 1);
        x.add(2, 0, 1);
        x.deliver(0, 2, 0);
        x.deliver(0, 2, 0);
        x.add(2, 0, 1);
        x.deliver(2, 1, 0);
        x.add(1, 0, 1);
        dueMessage(x, 0, 1, 1, OPERATION, 0, 2, 2, 2, 0, 0, 0);
        dueMessage(x, 2, 3, 0, OPERATION, 2, 1, 1, 0, 0, 1, 0);
        dueMessage(x, 2, 3, 1, OPERATION, 2, 2, 3, 2, 0, 2, 0);
        dueMessage(x, 1, 3, 0, OPERATION, 1, 1, 2, 0, 1, 1, 0);
    }

    // The PUT of 0 is BEFORE the TAKE of 2 by way of the ADD of 1 alone, which need not be of that SET.
    private static void oneIsBeforeAnother() {
        Check.sentence("One is BEFORE another one if the other one's CLOCK has it");
        ReplicaStore x = new ReplicaStore();
        x.put(0, 0, 7);
        x.deliver(0, 1, 0);
        x.add(1, 0, 1);
        x.deliver(0, 2, 0);
        x.deliver(1, 2, 0);
        x.put(3, 0, 7);
        x.take(2, 0, 7);
        dueMessage(x, 2, 1, 0, OPERATION, 2, 1, 3, 1, 1, 1, 0);
        due("the TAKE comes to the first PUT", x.deliver(2, 1, 0), 1);
        due("which is BEFORE it", x.has(1, 0, 7), 0);
        due("the second PUT comes", x.deliver(3, 1, 0), 1);
        due("which is not BEFORE it, though its TIME is less", x.has(1, 0, 7), 1);
        Moves.allCome(x, 3, true);
        due("the TAKE comes to both PUTS", x.clock(3, 2), 1);
        due("the second one stands", x.has(3, 0, 7), 1);
    }

    private static void timeFollowsWhatIsDone() {
        Check.sentence("Where an OPERATION is DONE, TIME becomes its TIME if that is greater");
        ReplicaStore x = new ReplicaStore();
        for (int i = 0; i < 5; i++) {
            x.add(0, 0, 1);
        }
        x.add(1, 0, 1);
        due("its own alone", x.count(1, 0), 1);
        x.deliver(0, 1, 2);
        due("it waits, and TIME with it", x.count(1, 0), 1);
        x.deliver(0, 1, 0);
        x.deliver(0, 1, 0);
        due("three were DONE", x.count(1, 0), 3);
        x.tell(0, 1);
        x.deliver(0, 1, 2);
        due("a CLOCK brings no TIME", x.count(1, 0), 3);
        x.deliver(1, 0, 0);
        due("a lesser TIME", x.count(0, 0), 5);
        x.add(1, 0, 1);
        due("the next one", x.message(1, 2, 1, 3), 4);
    }

    private static void markIsTimeThenReplica() {
        Check.sentence("the greater TIME is the greater MARK, of equal ones the greater replica");
        ReplicaStore x = new ReplicaStore();
        x.write(3, 0, 31);
        x.write(1, 0, 11);
        x.write(1, 0, 12);
        x.write(2, 0, 21);
        x.write(2, 0, 22);
        x.write(0, 0, 1);
        for (int r = 0; r < 4; r++) {
            Moves.allCome(x, r, r > 1);
            due("register of " + r, x.register(r, 0), 22);
        }
    }

    // What OPERATIONS do

    private static void counterIsTheSum() {
        Check.sentence("ADD n to a COUNTER: it is the sum of all that were DONE");
        ReplicaStore x = new ReplicaStore();
        x.add(0, 1, 100);
        x.add(0, 1, -30);
        x.add(1, 1, 7);
        x.add(1, 0, 1000);
        x.deliver(1, 0, 0);
        due("of both", x.counter(0, 1), 77);
        due("the one that has not come is not in it", x.counter(0, 0), 0);
        x.deliver(0, 1, 1);
        due("the one that waits is not in it", x.counter(1, 1), 7);
        x.deliver(0, 1, 0);
        due("all", x.counter(1, 1), 77);
        due("the other COUNTER", x.counter(1, 0), 1000);
    }

    private static void elementIsInWherePutStands() {
        Check.sentence("it is in it, where some PUT of it was DONE, behind which no TAKE of it was DONE");
        ReplicaStore x = new ReplicaStore();
        x.put(0, 0, 3);
        x.put(1, 0, 3);
        x.put(2, 0, 3);
        x.deliver(0, 3, 0);
        x.deliver(1, 3, 0);
        x.take(3, 0, 3);
        due("no PUT stands where it was taken", x.has(3, 0, 3), 0);
        x.deliver(2, 3, 0);
        due("some PUT, of which the TAKE did not know, stands", x.has(3, 0, 3), 1);
        due("size", x.size(3, 0), 1);
        x.take(3, 0, 3);
        due("it stands no more", x.size(3, 0), 0);
        Moves.allCome(x, 0, false);
        due("so elsewhere", x.has(0, 0, 3), 0);
        x.put(0, 0, 3);
        due("a PUT behind the TAKES", x.has(0, 0, 3), 1);
    }

    private static void takeIsOfOneElementOfOneSet() {
        Check.sentence("no TAKE of it: of that element of that SET");
        ReplicaStore x = new ReplicaStore();
        for (int element = 10; element < 13; element++) {
            x.put(0, 0, element);
            x.put(0, 1, element);
        }
        x.take(0, 0, 11);
        Moves.allCome(x, 1, false);
        for (int r = 0; r < 2; r++) {
            due("size", x.size(r, 0), 2);
            due("taken", x.has(r, 0, 11), 0);
            due("the one before it", x.has(r, 0, 10), 1);
            due("the one behind it", x.has(r, 0, 12), 1);
            due("the other SET", x.size(r, 1), 3);
        }
    }

    private static void registerIsOfTheGreatestMark() {
        Check.sentence("WRITE a REGISTER: it is what the one with the greatest MARK wrote");
        ReplicaStore x = new ReplicaStore();
        x.write(3, 1, 900);
        x.deliver(3, 0, 0);
        due("the only one", x.register(0, 1), 900);
        x.write(0, 1, -900);
        due("a later one, of a lesser number and replica", x.register(0, 1), -900);
        x.deliver(0, 3, 0);
        due("where it comes", x.register(3, 1), -900);
        due("the other REGISTER", x.register(3, 0), 0);
        x.write(1, 1, 5);
        x.deliver(1, 3, 0);
        due("one of a lesser MARK comes later", x.register(3, 1), -900);
    }

    // TEXTS

    private static void insertPutsBehindAnother() {
        Check.sentence("INSERT puts a character behind another one (one that is in the TEXT, or was), or at the beginning");
        ReplicaStore x = new ReplicaStore();
        x.insert(0, 0, 0, 'b');
        x.insert(0, 0, 1, 'd');
        x.insert(0, 0, 1, 'c');
        x.insert(0, 0, 0, 'a');
        Check.dueText(x, 0, 0, "abcd");
        Moves.allCome(x, 1, false);
        x.insert(1, 0, 3, '-');
        x.remove(0, 0, 2);
        x.remove(0, 0, 0);
        due("behind c, which was", x.deliver(1, 0, 0), 1);
        Check.dueText(x, 0, 0, "b-d");
        Moves.allCome(x, 1, false);
        Check.dueText(x, 1, 0, "b-d");
        Check.dueText(x, 1, 1, "");
    }

    private static void removeTakesOneAway() {
        Check.sentence("REMOVE takes one away (what was put behind it stays where it is)");
        ReplicaStore x = new ReplicaStore();
        x.insert(0, 1, 0, 'a');
        x.insert(0, 1, 1, 'a');
        x.insert(0, 1, 2, 'b');
        x.insert(0, 1, 0, 'x');
        Check.dueText(x, 0, 1, "xaab");
        x.remove(0, 1, 1);
        Check.dueText(x, 0, 1, "xab");
        Moves.allCome(x, 2, true);
        Check.dueText(x, 2, 1, "xab");
        x.insert(2, 1, 2, 'c');
        Check.dueText(x, 2, 1, "xacb");
        x.deliver(2, 0, 0);
        Check.dueText(x, 0, 1, "xacb");
    }

    // MARKS by TIME and replica: m is 1 of 1; at the beginning are e of 3 and m; behind m are s, r, p, behind p is q.
    private static void textHasItsOrder() {
        Check.sentence("first those that were put at the beginning, the greater MARK first, behind each one likewise");
        ReplicaStore x = new ReplicaStore();
        x.insert(1, 0, 0, 'm');
        for (int to = 0; to < 4; to++) {
            if (to != 1) {
                x.deliver(1, to, 0);
            }
        }
        x.insert(0, 0, 1, 'p');
        x.insert(0, 0, 2, 'q');
        x.insert(2, 0, 1, 'r');
        x.insert(3, 0, 0, 'e');
        x.insert(3, 0, 2, 's');
        for (int r = 0; r < 4; r++) {
            Moves.allCome(x, r, r % 2 == 1);
            Check.dueText(x, r, 0, "emsrpq");
        }
        x.insert(2, 0, 4, 'R');
        Check.dueText(x, 2, 0, "emsrRpq");
    }

    private static void takenAwayArePassedOver() {
        Check.sentence("(Those that were taken away are passed over.)");
        ReplicaStore x = new ReplicaStore();
        for (int i = 0; i < 6; i++) {
            x.insert(3, 0, i, 'a' + i);
        }
        x.remove(3, 0, 1);
        x.remove(3, 0, 1);
        x.remove(3, 0, 3);
        Check.dueText(x, 3, 0, "ade");
        due("length", x.length(3, 0), 3);
        due("all that were there", x.count(3, 4), 6);
        x.insert(3, 0, 1, 'X');
        x.insert(3, 0, 4, 'Y');
        Check.dueText(x, 3, 0, "aXdeY");
        x.remove(3, 0, 2);
        Check.dueText(x, 3, 0, "aXeY");
        Moves.allCome(x, 0, true);
        Check.dueText(x, 0, 0, "aXeY");
    }

    // MESSAGES

    private static void messagesAreOnAWay() {
        Check.sentence("MESSAGES are on a WAY, at most 30 of them (more are lost), in the order in which they were sent");
        ReplicaStore x = new ReplicaStore();
        x.tell(0, 1);
        for (int n = 1; n <= 28; n++) {
            x.add(0, 0, 1);
        }
        x.ask(0, 1);
        due("the WAY", x.way(0, 1), 30);
        due("the WAY back", x.way(1, 0), 0);
        due("another WAY", x.way(0, 2), 28);
        x.add(0, 0, 1);
        due("it is lost here", x.way(0, 1), 30);
        due("it is not lost there", x.way(0, 2), 29);
        due("the first", x.message(0, 1, 0, 0), CLOCK);
        for (int k = 1; k <= 28; k++) {
            dueMessage(x, 0, 1, k, OPERATION, 0, k);
        }
        due("the last", x.message(0, 1, 29, 0), QUESTION);
        due("one from the middle waits", x.deliver(0, 1, 14), 0);
        due("the one behind it took its place", x.message(0, 1, 14, 2), 15);
        due("the one before it is where it was", x.message(0, 1, 13, 2), 13);
    }

    private static void messagesAreOfThreeKinds() {
        Check.sentence("an OPERATION with its CLOCK and TIME; or a CLOCK; or a QUESTION, with a CLOCK");
        ReplicaStore x = new ReplicaStore();
        x.add(1, 0, 1);
        x.deliver(1, 2, 0);
        x.tell(2, 3);
        x.add(2, 0, 1);
        x.ask(2, 3);
        x.add(2, 0, 1);
        dueMessage(x, 2, 3, 0, CLOCK, 2, 0, 0, 0, 1, 0, 0);
        dueMessage(x, 2, 3, 1, OPERATION, 2, 1, 2, 0, 1, 1, 0);
        dueMessage(x, 2, 3, 2, QUESTION, 2, 0, 0, 0, 1, 1, 0);
        dueMessage(x, 2, 3, 3, OPERATION, 2, 2, 3, 0, 1, 2, 0);
        x.deliver(2, 3, 3);
        dueMessage(x, 2, 3, 0, CLOCK, 2, 0, 0, 0, 1, 0, 0);
    }

    private static void newOneIsSentToAllOthers() {
        Check.sentence("An OPERATION, where it is new, is sent to all three others (also to those that are down)");
        for (int r = 0; r < 4; r++) {
            ReplicaStore x = new ReplicaStore();
            x.power((r + 1) % 4, false);
            x.write(r, 0, 5);
            for (int from = 0; from < 4; from++) {
                for (int to = 0; to < 4; to++) {
                    if (from != to) {
                        due("way(" + from + ", " + to + ")", x.way(from, to), from == r ? 1 : 0);
                    }
                }
            }
            for (int away = 1; away < 4; away++) {
                dueMessage(x, r, (r + away) % 4, 0, OPERATION, r, 1, 1);
            }
        }
    }

    private static void onlyNewOnesAreSent() {
        Check.sentence("An OPERATION, where it is new, is sent: where it only comes it is not sent on");
        ReplicaStore x = new ReplicaStore();
        x.add(0, 0, 1);
        x.add(0, 0, 1);
        x.copy(0, 1, 0);
        due("it waits", x.deliver(0, 1, 1), 0);
        due("both are DONE", x.deliver(0, 1, 0), 2);
        due("it vanishes", x.deliver(0, 1, 0), 0);
        x.tell(0, 1);
        x.deliver(0, 1, 0);
        for (int to = 0; to < 4; to++) {
            if (to != 1) {
                due("nothing is sent to " + to, x.way(1, to), 0);
            }
        }
        due("nothing came by another WAY", x.way(0, 2), 2);
    }

    // WHAT COMES: what is KNOWN

    private static void knowsOfItselfItsOwn() {
        Check.sentence("it KNOWS a CLOCK of each other one (zeros at first), of itself its own");
        ReplicaStore x = new ReplicaStore();
        x.add(0, 0, 1);
        x.add(3, 0, 1);
        x.add(3, 0, 1);
        x.deliver(3, 0, 0);
        dueKnown(x, 0, 0, 1, 0, 0, 1);
        dueKnown(x, 0, 3, 0, 0, 0, 1);
        dueKnown(x, 0, 1, 0, 0, 0, 0);
        dueKnown(x, 0, 2, 0, 0, 0, 0);
        dueKnown(x, 3, 3, 0, 0, 0, 2);
        dueKnown(x, 3, 0, 0, 0, 0, 0);
    }

    private static void knowsByWhatCame() {
        Check.sentence("each number of what it KNOWS of that one (all four) becomes that, if it is greater");
        ReplicaStore x = new ReplicaStore();
        x.add(0, 0, 1);
        x.add(2, 0, 1);
        x.deliver(0, 2, 0);
        x.tell(2, 3);
        x.deliver(2, 3, 1);
        dueKnown(x, 3, 2, 1, 0, 1, 0);
        dueClock(x, 3, 0, 0, 0, 0);
        x.add(2, 0, 1);
        x.ask(2, 3);
        x.deliver(2, 3, 2);
        dueKnown(x, 3, 2, 1, 0, 2, 0);
        x.add(2, 0, 1);
        x.deliver(2, 3, 2);
        dueKnown(x, 3, 2, 1, 0, 3, 0);
        x.deliver(2, 3, 0);
        dueKnown(x, 3, 2, 1, 0, 3, 0);
        dueKnown(x, 3, 0, 0, 0, 0, 0);
        due("what is only on its WAY tells nothing", x.knows(1, 2, 2), 0);
        x.lose(2, 1, 0);
        due("nor what is lost", x.knows(1, 2, 2), 0);
    }

    private static void knowsByAnOperationOfWhoseItIs() {
        Check.sentence("the CLOCK of the replica that sent it (of an OPERATION: of the one whose it is)");
        ReplicaStore x = new ReplicaStore();
        x.add(3, 0, 1);
        x.deliver(3, 0, 0);
        x.add(0, 0, 1);
        x.deliver(3, 1, 0);
        x.deliver(0, 1, 0);
        x.ask(2, 1);
        x.deliver(2, 1, 0);
        dueMessage(x, 1, 2, 0, OPERATION, 3, 1);
        dueMessage(x, 1, 2, 1, OPERATION, 0, 1);
        due("that of 0, sent by 1, waits for that of 3", x.deliver(1, 2, 1), 0);
        dueKnown(x, 2, 0, 1, 0, 0, 1);
        dueKnown(x, 2, 1, 0, 0, 0, 0);
        dueKnown(x, 2, 3, 0, 0, 0, 0);
        due("both", x.deliver(1, 2, 0), 2);
        dueKnown(x, 2, 3, 0, 0, 0, 1);
        dueKnown(x, 2, 1, 0, 0, 0, 0);
        due("the CLOCK of 1", x.deliver(1, 2, 0), 0);
        dueKnown(x, 2, 1, 1, 0, 0, 1);
    }

    // By the QUESTION itself 0 learns that the last one has it, too.
    private static void knowsFirstThenDoes() {
        Check.sentence("becomes that, if it is greater. Then: ..");
        ReplicaStore x = new ReplicaStore();
        x.add(0, 0, 1);
        for (int r = 1; r < 4; r++) {
            x.deliver(0, r, 0);
        }
        Moves.tellAtOnce(x, 2, 0);
        Moves.tellAtOnce(x, 3, 0);
        x.ask(1, 0);
        due("in the LOG yet", x.count(0, 1), 1);
        x.deliver(1, 0, 0);
        dueKnown(x, 0, 1, 1, 0, 0, 0);
        due("not in the LOG", x.count(0, 1), 0);
        due("the CLOCK alone", x.way(0, 1), 1);
    }

    // WHAT COMES: OPERATIONS

    private static void whatIsDoneOrWaitsVanishes() {
        Check.sentence("An OPERATION that it has DONE, or that WAITS there, vanishes");
        ReplicaStore x = new ReplicaStore();
        x.insert(0, 0, 0, 'a');
        x.insert(0, 0, 1, 'b');
        for (int i = 0; i < 2; i++) {
            x.copy(0, 3, 0);
            x.copy(0, 3, 1);
        }
        due("b waits", x.deliver(0, 3, 1), 0);
        due("b vanishes", x.deliver(0, 3, 2), 0);
        due("one waits", x.count(3, 2), 1);
        due("a, then b", x.deliver(0, 3, 0), 2);
        due("a vanishes", x.deliver(0, 3, 0), 0);
        due("a vanishes", x.deliver(0, 3, 0), 0);
        due("b vanishes", x.deliver(0, 3, 0), 0);
        due("the WAY is empty", x.way(0, 3), 0);
        due("none waits", x.count(3, 2), 0);
        due("LOG", x.count(3, 1), 2);
        Check.dueText(x, 3, 0, "ab");
    }

    private static void whatAnotherOneSentVanishesToo() {
        Check.sentence("An OPERATION that it has DONE, or that WAITS there, vanishes, whoever sent it");
        ReplicaStore x = new ReplicaStore();
        x.add(0, 0, 1);
        x.add(0, 0, 10);
        Moves.allCome(x, 1, false);
        due("the second of 0, from 0, waits", x.deliver(0, 2, 1), 0);
        x.ask(2, 1);
        x.deliver(2, 1, 0);
        dueMessage(x, 1, 2, 1, OPERATION, 0, 2);
        due("the second of 0, from 1, vanishes", x.deliver(1, 2, 1), 0);
        due("one waits", x.count(2, 2), 1);
        due("the first of 0, from 1, and the second", x.deliver(1, 2, 0), 2);
        due("the first of 0, from 0, vanishes", x.deliver(0, 2, 0), 0);
        due("none waits", x.count(2, 2), 0);
        due("counter", x.counter(2, 0), 11);
    }

    private static void anyOtherOneWaits() {
        Check.sentence("any other one WAITS");
        ReplicaStore x = new ReplicaStore();
        for (int i = 0; i < 5; i++) {
            x.add(0, 0, 1);
            x.add(1, 0, 1);
        }
        for (int i = 1; i < 5; i++) {
            due("of 0", x.deliver(0, 2, 1), 0);
            due("of 1", x.deliver(1, 2, 1), 0);
            due("they wait", x.count(2, 2), 2 * i);
        }
        due("those of 0", x.deliver(0, 2, 0), 5);
        due("those of 1 wait on", x.count(2, 2), 4);
        due("those of 1", x.deliver(1, 2, 0), 5);
        due("none waits", x.count(2, 2), 0);
        due("counter", x.counter(2, 0), 10);
    }

    private static void waitingOneDoesNothingYet() {
        Check.sentence("any other one WAITS: until it is READY it is not DONE");
        ReplicaStore x = new ReplicaStore();
        x.add(0, 0, 1);
        x.add(0, 0, 10);
        x.put(0, 0, 1);
        x.write(0, 0, 10);
        x.insert(0, 0, 0, 'a');
        for (int left = 4; left > 0; left--) {
            x.deliver(0, 2, 1);
        }
        due("they wait", x.count(2, 2), 4);
        due("counter", x.counter(2, 0), 0);
        due("size", x.size(2, 0), 0);
        due("register", x.register(2, 0), 0);
        due("length", x.length(2, 0), 0);
        due("characters", x.count(2, 4), 0);
        due("TIME", x.count(2, 0), 0);
        due("LOG", x.count(2, 1), 0);
        dueClock(x, 2, 0, 0, 0, 0);
        dueKnown(x, 2, 0, 5, 0, 0, 0);
        x.ask(3, 2);
        x.deliver(3, 2, 0);
        due("the answer is without them", x.way(2, 3), 1);
        due("all five", x.deliver(0, 2, 0), 5);
        due("TIME", x.count(2, 0), 5);
        due("LOG", x.count(2, 1), 5);
    }

    // Not all that wait: d, the third one of 0, lacks the second one. By the CLOCKS of those of 1 and 2 all have
    // the first of 0, so it is not in the LOG.
    private static void eachThatIsReadyIsDone() {
        Check.sentence("then each one that WAITS (the one that came first of those that can) and is READY is DONE");
        ReplicaStore x = new ReplicaStore();
        x.ask(1, 3);
        x.add(0, 0, 1);
        x.add(0, 0, 1);
        x.add(0, 0, 1);
        x.deliver(0, 1, 0);
        x.deliver(0, 2, 0);
        x.add(2, 0, 1);
        x.add(1, 0, 1);
        due("d of 0 waits", x.deliver(0, 3, 2), 0);
        due("that of 2 waits", x.deliver(2, 3, 0), 0);
        due("that of 1 waits", x.deliver(1, 3, 1), 0);
        due("the first of 0, that of 2, that of 1", x.deliver(0, 3, 0), 3);
        due("d waits yet", x.count(3, 2), 1);
        dueLog(x, 3, 1, new int[] {2, 1}, new int[] {1, 1});
        due("the second of 0, then d", x.deliver(0, 3, 0), 2);
        dueClock(x, 3, 3, 1, 1, 0);
    }

    private static void readyByItsReplicaAndItsClock() {
        Check.sentence("READY is one of replica o if it is the next one of o, and its CLOCK has no more than was DONE");
        ReplicaStore x = new ReplicaStore();
        x.add(2, 0, 1);
        x.deliver(2, 1, 0);
        x.add(1, 0, 10);
        x.add(1, 0, 100);
        x.deliver(1, 0, 0);
        due("the next of 1, but its CLOCK has that of 2", x.count(0, 2), 1);
        due("not the next of 1", x.deliver(1, 0, 0), 0);
        due("both wait", x.count(0, 2), 2);
        x.add(0, 0, 1000);
        due("one more of its own makes none READY", x.count(0, 2), 2);
        due("that of 2, and both", x.deliver(2, 0, 0), 3);
        due("counter", x.counter(0, 0), 1111);
        due("where more was DONE than its CLOCK has", x.deliver(0, 1, 0), 1);
        due("counter", x.counter(1, 0), 1111);
    }

    // WHAT COMES: QUESTIONS

    private static void questionIsAnswered() {
        Check.sentence("A QUESTION: the answer is all OPERATIONS of the LOG that the QUESTION'S CLOCK has not");
        ReplicaStore x = new ReplicaStore();
        x.add(0, 0, 1);
        x.add(1, 0, 1);
        x.add(0, 0, 1);
        x.add(1, 0, 1);
        x.add(3, 0, 1);
        Moves.allCome(x, 1, false);
        x.deliver(0, 2, 0);
        x.ask(2, 1);
        due("none is DONE by a QUESTION", x.deliver(2, 1, 0), 0);
        int first = 2;
        due("all but the first of 0, and the CLOCK", x.way(1, 2), first + 5);
        int[][] want = {{1, 1}, {1, 2}, {0, 2}, {3, 1}};
        for (int i = 0; i < want.length; i++) {
            dueMessage(x, 1, 2, first + i, OPERATION, want[i][0], want[i][1]);
        }
        dueMessage(x, 1, 2, first + 4, CLOCK, 1, 0, 0, 2, 2, 0, 1);
        due("the others hear nothing of it", x.way(1, 0), 2);
        due("the others hear nothing of it", x.way(1, 3), 2);
        due("the LOG stays", x.count(1, 1), 5);
    }

    // The QUESTION's CLOCK, that of the one that asks, is another one.
    private static void answerEndsWithTheAnsweringClock() {
        Check.sentence("then its CLOCK; A message's CLOCK was the CLOCK of the replica that sent it");
        ReplicaStore x = new ReplicaStore();
        x.add(2, 0, 1);
        x.add(2, 0, 1);
        x.add(0, 0, 1);
        x.ask(2, 0);
        x.deliver(2, 0, 2);
        dueMessage(x, 0, 2, 1, OPERATION, 0, 1, 1, 1, 0, 0, 0);
        dueMessage(x, 0, 2, 2, CLOCK, 0, 0, 0, 1, 0, 0, 0);
        x.add(0, 0, 1);
        dueMessage(x, 0, 2, 2, CLOCK, 0, 0, 0, 1, 0, 0, 0);
        x.deliver(0, 2, 2);
        dueKnown(x, 2, 0, 1, 0, 0, 0);
    }

    private static void clockIsNotAnswered() {
        Check.sentence("A QUESTION: the answer is ..; a CLOCK and an OPERATION have none");
        ReplicaStore x = new ReplicaStore();
        x.add(0, 0, 1);
        x.add(1, 0, 1);
        x.tell(0, 1);
        due("a CLOCK", x.deliver(0, 1, 1), 0);
        due("an OPERATION", x.deliver(0, 1, 0), 1);
        due("its own OPERATION alone is on the WAY back", x.way(1, 0), 1);
    }

    // THE LOG

    private static void logIsInTheOrderOfDoing() {
        Check.sentence("THE LOG of a replica: OPERATIONS that it has DONE, in that order");
        ReplicaStore x = new ReplicaStore();
        x.ask(0, 1);
        x.add(3, 0, 1);
        x.add(2, 0, 1);
        x.add(2, 0, 1);
        x.deliver(2, 1, 0);
        x.add(1, 0, 1);
        x.deliver(3, 1, 0);
        x.deliver(2, 1, 0);
        x.add(1, 0, 1);
        due("whose is the first", x.count(1, 5), 2);
        due("its number", x.count(1, 6), 1);
        dueLog(x, 1, 0, new int[] {2, 1}, new int[] {1, 1}, new int[] {3, 1}, new int[] {2, 2}, new int[] {1, 2});
    }

    // That of 0, between two of 1, goes; those of 1 stay, as 2 may lack them.
    private static void logIsShortenedWithinToo() {
        Check.sentence("but those of which it KNOWS that each replica has DONE them; such a one goes at once when it is known");
        ReplicaStore x = new ReplicaStore();
        x.ask(3, 1);
        x.add(0, 0, 1);
        x.add(1, 0, 1);
        x.deliver(0, 1, 0);
        x.add(1, 0, 1);
        x.deliver(0, 2, 0);
        x.deliver(0, 3, 0);
        Moves.tellAtOnce(x, 2, 1);
        due("3 may lack it", x.count(1, 1), 3);
        Moves.tellAtOnce(x, 3, 1);
        due("it went", x.count(1, 1), 2);
        dueLog(x, 1, 3, new int[] {1, 1}, new int[] {1, 2});
        due("elsewhere, where it is not known, it stays", x.count(0, 1), 1);
        due("its COUNTER keeps it", x.counter(1, 0), 3);
    }

    private static void logIsShortenedByOperationsToo() {
        Check.sentence("such a one goes at once when it is known: by the CLOCK of an OPERATION, also of one that WAITS");
        ReplicaStore x = new ReplicaStore();
        x.add(0, 0, 1);
        for (int r = 1; r < 4; r++) {
            x.deliver(0, r, 0);
            x.add(r, 0, 10);
        }
        x.add(3, 0, 10);
        x.deliver(1, 0, 0);
        x.deliver(2, 0, 0);
        due("its own and two", x.count(0, 1), 3);
        due("the second of 3 waits", x.deliver(3, 0, 1), 0);
        due("its own went", x.count(0, 1), 2);
        due("whose is the first now", x.count(0, 5), 1);
    }
}
