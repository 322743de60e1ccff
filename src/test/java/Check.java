/** Counts and prints the answers that are not the ones that are due. */
final class Check {
    private static int wrong = 0;
    private static String sentence = "";

    private Check() {
    }

    /** What comes is held against this sentence of the document. */
    static void sentence(String words) {
        sentence = words + ": ";
    }

    static void due(String call, long got, long want) {
        if (got != want) {
            wrong++;
            System.out.println(sentence + call + " answered " + got + ", due is " + want);
        }
    }

    static void holds(String what, boolean holds) {
        if (!holds) {
            wrong++;
            System.out.println(sentence + "does not hold: " + what);
        }
    }

    /** A TEXT of a replica, character by character, and nothing behind it. */
    static void dueText(ReplicaStore x, int replica, int text, String want) {
        StringBuilder got = new StringBuilder();
        int length = x.length(replica, text);
        for (int place = 0; place < length; place++) {
            got.append((char) x.character(replica, text, place));
        }
        holds("text " + text + " of " + replica + " is " + want + ", not " + got, want.contentEquals(got));
        due("behind its end", x.character(replica, text, want.length()), ReplicaStore.NONE);
    }

    static boolean allRight() {
        return wrong == 0;
    }

    static void end() {
        System.out.println(wrong == 0 ? "all answers are as due" : wrong + " answers are not as due");
        if (wrong != 0) {
            System.exit(1);
        }
    }
}
