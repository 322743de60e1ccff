import java.util.ArrayList;
import java.util.List;
import java.util.Random;

/**
 * "Messages may come late, twice, in any order, or not at all; what has come of the same operations is the same
 * everywhere." The seeds are fixed, so every run is the same.
 */
public final class SameEverywhereTest {
    private static final int RUNS = 2000;
    private static final int OPERATIONS = 24;
    private static final int MOVES = 60;
    private static final int ELEMENTS = 3;

    private final Random random;
    private final ReplicaStore x = new ReplicaStore();
    private final int[] sums = new int[2];

    private SameEverywhereTest(int run) {
        random = new Random(run);
        Check.sentence("what has come of the same operations is the same everywhere, run " + run);
    }

    public static void main(String[] args) {
        for (int run = 0; run < RUNS && Check.allRight(); run++) {
            new SameEverywhereTest(run).play();
        }
        Check.end();
    }

    private void play() {
        for (int i = 0; i < OPERATIONS; i++) {
            operate();
            for (int j = random.nextInt(2 * MOVES / OPERATIONS); j > 0; j--) {
                move();
            }
        }
        loseTheRest();
        sameWhereClocksAreTheSame();
        bringAllToAll();
        sameEverywhere();
        logsAreEmptyWhenAllIsKnown();
    }

    private void operate() {
        int r = random.nextInt(4);
        int which = random.nextInt(2);
        int n = random.nextInt();
        int length = x.length(r, which);
        switch (random.nextInt(7)) {
            case 0 -> {
                sums[which] += n;
                x.add(r, which, n);
            }
            case 1 -> x.put(r, which, random.nextInt(ELEMENTS));
            case 2 -> x.take(r, which, random.nextInt(ELEMENTS));
            case 3 -> x.write(r, which, n);
            case 4 -> x.remove(r, which, random.nextInt(length + 1));
            default -> x.insert(r, which, random.nextInt(length + 1), 1 + random.nextInt(127));
        }
    }

    private void move() {
        int from = random.nextInt(4);
        int to = (from + 1 + random.nextInt(3)) % 4;
        int k = random.nextInt(3);
        switch (random.nextInt(8)) {
            case 0 -> x.lose(from, to, k);
            case 1 -> x.copy(from, to, k);
            default -> x.deliver(from, to, k);
        }
    }

    private void loseTheRest() {
        for (int from = 0; from < 4; from++) {
            for (int to = 0; to < 4; to++) {
                for (int left = x.way(from, to); left > 0; left--) {
                    x.lose(from, to, 0);
                }
            }
        }
    }

    private List<Integer> clockOf(int replica) {
        List<Integer> clock = new ArrayList<>();
        for (int j = 0; j < 4; j++) {
            clock.add(x.clock(replica, j));
        }
        return clock;
    }

    private List<Integer> storeOf(int replica) {
        List<Integer> store = new ArrayList<>();
        for (int two = 0; two < 2; two++) {
            store.add(x.counter(replica, two));
            store.add(x.register(replica, two));
            for (int element = 0; element < ELEMENTS; element++) {
                store.add(x.has(replica, two, element));
            }
            int length = x.length(replica, two);
            for (int place = 0; place < length; place++) {
                store.add(x.character(replica, two, place));
            }
            store.add(length);
        }
        store.add(x.count(replica, 0));
        store.add(x.count(replica, 4));
        return store;
    }

    private void same(int one, int other) {
        List<Integer> ofOne = storeOf(one);
        List<Integer> ofOther = storeOf(other);
        Check.holds(one + " has " + ofOne + ", " + other + " has " + ofOther, ofOne.equals(ofOther));
    }

    private void sameWhereClocksAreTheSame() {
        if (clockOf(0).equals(clockOf(1))) {
            same(0, 1);
        }
    }

    // First 0 hears of all others, then the others of 0.
    private void bringAllToAll() {
        for (int r = 1; r < 4; r++) {
            Moves.askAndHear(x, 0, r);
        }
        for (int r = 1; r < 4; r++) {
            Moves.askAndHear(x, r, 0);
        }
    }

    private void sameEverywhere() {
        for (int two = 0; two < 2; two++) {
            Check.due("the sum of all", x.counter(0, two), sums[two]);
        }
        for (int r = 1; r < 4; r++) {
            Check.holds("0 has DONE " + clockOf(0) + ", " + r + " " + clockOf(r), clockOf(0).equals(clockOf(r)));
            Check.due("none waits at " + r, x.count(r, 2), 0);
            same(0, r);
        }
    }

    private void logsAreEmptyWhenAllIsKnown() {
        for (int to = 0; to < 4; to++) {
            for (int from = 0; from < 4; from++) {
                if (from != to) {
                    Moves.tellAtOnce(x, from, to);
                }
            }
            Check.due("OPERATIONS in the LOG of " + to, x.count(to, 1), 0);
        }
    }
}
