import java.util.Random;

/** Long mixed runs of calls, each answer held against PlainStore. The seeds are fixed, so every run is the same. */
public final class ModelTest {
    private static final int RUNS = 3000;
    private static final int[] ODD = {-1, -2, 2, 4, 7, 8, 30, 32, 60, 128, Integer.MIN_VALUE, Integer.MAX_VALUE};

    private final Random random;
    private final ReplicaStore real = new ReplicaStore();
    private final PlainStore plain = new PlainStore();
    private final String name;
    private final int style;
    private int calls = 0;

    private ModelTest(int run) {
        random = new Random(run);
        name = "run " + run;
        style = run % 6;
    }

    public static void main(String[] args) {
        for (int run = 0; run < RUNS && Check.allRight(); run++) {
            new ModelTest(run).play();
        }
        Check.end();
    }

    // The document promises nothing after 512 calls: the last ones look at all that there is.
    private void play() {
        int length = 20 + random.nextInt(250);
        while (calls < length && Check.allRight()) {
            step();
        }
        lookAtEverything();
        Check.holds(name + " stays within 512 calls", calls <= 512);
    }

    private void answer(String text, int realAnswer, int plainAnswer) {
        calls++;
        Check.due(name + ", call " + calls + ": " + text, realAnswer, plainAnswer);
    }

    private void step() {
        int[] weights = weights();
        int all = 0;
        for (int weight : weights) {
            all += weight;
        }
        int at = random.nextInt(all);
        int kind = 0;
        while (at >= weights[kind]) {
            at -= weights[kind++];
        }
        if (kind < 6) {
            change(kind);
        } else if (kind < 12) {
            move(kind);
        } else {
            look();
        }
    }

    // add put take write insert remove | deliver copy lose ask tell power | look
    private int[] weights() {
        return switch (style) {
            case 0 -> new int[] {2, 3, 2, 2, 5, 2, 20, 2, 1, 2, 2, 1, 4};
            case 1 -> new int[] {0, 0, 0, 0, 20, 6, 30, 1, 0, 1, 1, 0, 4};
            case 2 -> new int[] {0, 10, 8, 4, 0, 0, 25, 1, 1, 1, 1, 0, 4};
            case 3 -> new int[] {3, 1, 1, 1, 2, 1, 30, 1, 6, 6, 8, 1, 4};
            case 4 -> new int[] {20, 3, 2, 3, 6, 3, 4, 2, 1, 1, 1, 1, 4};
            default -> new int[] {1, 1, 1, 1, 1, 1, 40, 0, 0, 1, 15, 0, 4};
        };
    }

    private int pick(int bound) {
        return random.nextInt(60) == 0 ? ODD[random.nextInt(ODD.length)] : random.nextInt(bound);
    }

    private int replica() {
        return style == 4 && random.nextInt(3) > 0 ? 2 : pick(4);
    }

    private void change(int kind) {
        int r = replica();
        int which = pick(2);
        int n = random.nextInt(4) == 0 ? random.nextInt() : random.nextInt(100);
        int element = style == 2 ? pick(3) : pick(32);
        int length = Math.max(0, plain.length(r, which));
        int place = pick(length + 1);
        int c = 1 + pick(127);
        String rest = "(" + r + ", " + which + ", ";
        switch (kind) {
            case 0 -> answer("add" + rest + n + ")", real.add(r, which, n), plain.add(r, which, n));
            case 1 -> answer("put" + rest + element + ")", real.put(r, which, element), plain.put(r, which, element));
            case 2 -> answer("take" + rest + element + ")", real.take(r, which, element), plain.take(r, which, element));
            case 3 -> answer("write" + rest + n + ")", real.write(r, which, n), plain.write(r, which, n));
            case 4 -> answer("insert" + rest + place + ", " + c + ")",
                real.insert(r, which, place, c), plain.insert(r, which, place, c));
            default -> answer("remove" + rest + place + ")",
                real.remove(r, which, place), plain.remove(r, which, place));
        }
    }

    private void move(int kind) {
        int from = pick(4);
        int to = pick(4);
        for (int tries = 0; tries < 6 && plain.way(from, to) < 1; tries++) {
            from = pick(4);
            to = pick(4);
        }
        int k = random.nextInt(3) > 0 ? 0 : pick(Math.max(1, plain.way(from, to)));
        String two = "(" + from + ", " + to;
        switch (kind) {
            case 6 -> answer("deliver" + two + ", " + k + ")", real.deliver(from, to, k), plain.deliver(from, to, k));
            case 7 -> answer("copy" + two + ", " + k + ")", real.copy(from, to, k), plain.copy(from, to, k));
            case 8 -> answer("lose" + two + ", " + k + ")", real.lose(from, to, k), plain.lose(from, to, k));
            case 9 -> answer("ask" + two + ")", real.ask(from, to), plain.ask(from, to));
            case 10 -> answer("tell" + two + ")", real.tell(from, to), plain.tell(from, to));
            default -> {
                boolean up = random.nextInt(4) > 0;
                answer("power(" + from + ", " + up + ")", real.power(from, up), plain.power(from, up));
            }
        }
    }

    private void look() {
        int a = pick(4);
        int b = pick(4);
        int c = pick(4);
        int d = pick(8);
        int which = pick(2);
        switch (random.nextInt(11)) {
            case 0 -> answer("counter", real.counter(a, which), plain.counter(a, which));
            case 1 -> answer("has", real.has(a, which, c), plain.has(a, which, c));
            case 2 -> answer("size", real.size(a, which), plain.size(a, which));
            case 3 -> answer("register", real.register(a, which), plain.register(a, which));
            case 4 -> answer("length", real.length(a, which), plain.length(a, which));
            case 5 -> answer("character", real.character(a, which, d), plain.character(a, which, d));
            case 6 -> answer("clock", real.clock(a, b), plain.clock(a, b));
            case 7 -> answer("knows", real.knows(a, b, c), plain.knows(a, b, c));
            case 8 -> answer("count", real.count(a, d), plain.count(a, d));
            case 9 -> answer("message", real.message(a, b, c, d), plain.message(a, b, c, d));
            default -> answer("way", real.way(a, b), plain.way(a, b));
        }
    }

    private void lookAtEverything() {
        int last = 500;
        for (int r = 0; r < 4; r++) {
            for (int what = 0; what < 7; what++) {
                answer("count(" + r + ", " + what + ")", real.count(r, what), plain.count(r, what));
            }
            for (int which = 0; which < 2; which++) {
                String two = "(" + r + ", " + which + ")";
                answer("counter" + two, real.counter(r, which), plain.counter(r, which));
                answer("size" + two, real.size(r, which), plain.size(r, which));
                answer("register" + two, real.register(r, which), plain.register(r, which));
                answer("length" + two, real.length(r, which), plain.length(r, which));
            }
            for (int i = 0; i < 4; i++) {
                answer("way(" + r + ", " + i + ")", real.way(r, i), plain.way(r, i));
                answer("knows(" + r + ", " + i + ", 2)", real.knows(r, i, 2), plain.knows(r, i, 2));
            }
        }
        lookAtTexts(last);
        lookAtMessages(last);
    }

    private void lookAtTexts(int last) {
        int r = random.nextInt(4);
        for (int which = 0; which < 2; which++) {
            for (int place = 0; place <= plain.length(r, which) && calls < last; place++) {
                answer("character(" + r + ", " + which + ", " + place + ")",
                    real.character(r, which, place), plain.character(r, which, place));
            }
        }
    }

    private void lookAtMessages(int last) {
        int from = random.nextInt(4);
        int to = (from + 1 + random.nextInt(3)) % 4;
        for (int k = 0; k <= plain.way(from, to); k++) {
            for (int what = 0; what < 8 && calls < last; what++) {
                answer("message(" + from + ", " + to + ", " + k + ", " + what + ")",
                    real.message(from, to, k, what), plain.message(from, to, k, what));
            }
        }
    }
}
