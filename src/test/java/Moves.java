/** What tests do to many messages at once. */
final class Moves {
    private Moves() {
    }

    /** All messages that are on the WAYS to a replica come, the last one of each WAY first if so wanted. */
    static void allCome(ReplicaStore x, int to, boolean lastFirst) {
        for (int from = 0; from < 4; from++) {
            for (int left = x.way(from, to); left > 0; left--) {
                x.deliver(from, to, lastFirst ? left - 1 : 0);
            }
        }
    }

    /** A replica asks another one, the QUESTION comes, and so does all that is on the WAY back. */
    static void askAndHear(ReplicaStore x, int from, int to) {
        int questions = x.ask(from, to);
        x.deliver(from, to, questions - 1);
        for (int left = x.way(to, from); left > 0; left--) {
            x.deliver(to, from, 0);
        }
    }

    /** A replica tells its CLOCK to another one, and it comes at once. */
    static void tellAtOnce(ReplicaStore x, int from, int to) {
        int messages = x.tell(from, to);
        x.deliver(from, to, messages - 1);
    }
}
