import java.util.ArrayList;
import java.util.EnumMap;
import java.util.List;
import java.util.Map;
import java.util.function.Supplier;

/** All that can be seen of a store. Each part is seen of a store of its own, as one is good for 512 calls only. */
final class State {
    private static final Map<Scene, List<String>> SEEN = new EnumMap<>(Scene.class);

    private State() {
    }

    static List<String> of(Scene scene) {
        return SEEN.computeIfAbsent(scene, key -> of(key::made));
    }

    static List<String> of(Supplier<ReplicaStore> made) {
        List<String> parts = new ArrayList<>();
        for (int r = 0; r < 4; r++) {
            parts.add("replica " + r + ": " + replica(made.get(), r));
            for (int to = 0; to < 4; to++) {
                parts.add("way " + r + " to " + to + ": " + way(made.get(), r, to));
            }
        }
        parts.add("what comes of it: " + afterwards(made.get()));
        return parts;
    }

    private static String replica(ReplicaStore x, int r) {
        StringBuilder seen = new StringBuilder();
        for (int two = 0; two < 2; two++) {
            seen.append(" counter ").append(x.counter(r, two)).append(" register ").append(x.register(r, two));
            seen.append(" set of ").append(x.size(r, two)).append(' ');
            for (int element = 0; element < 32; element++) {
                seen.append(x.has(r, two, element));
            }
            int length = x.length(r, two);
            seen.append(" text of ").append(length);
            for (int place = 0; place <= length; place++) {
                seen.append(' ').append(x.character(r, two, place));
            }
        }
        for (int what = 0; what < 7; what++) {
            seen.append(" count ").append(x.count(r, what));
        }
        for (int i = 0; i < 4; i++) {
            seen.append(" clock ").append(x.clock(r, i)).append(" knows");
            for (int j = 0; j < 4; j++) {
                seen.append(' ').append(x.knows(r, i, j));
            }
        }
        return seen.toString();
    }

    private static String way(ReplicaStore x, int from, int to) {
        int messages = x.way(from, to);
        StringBuilder seen = new StringBuilder().append(messages);
        for (int k = 0; k < messages; k++) {
            seen.append(" |");
            for (int what = 0; what < 8; what++) {
                seen.append(' ').append(x.message(from, to, k, what));
            }
        }
        return seen.toString();
    }

    // What cannot be looked at shows in what later calls answer: the number of the next OPERATION, what WAITS.
    private static String afterwards(ReplicaStore x) {
        StringBuilder seen = new StringBuilder();
        for (int r = 0; r < 4; r++) {
            seen.append(' ').append(x.power(r, true)).append(' ').append(x.insert(r, 0, 0, 'z'));
        }
        for (int from = 0; from < 4; from++) {
            for (int to = 0; to < 4; to++) {
                int messages = Math.min(x.way(from, to), 8);
                for (int k = 0; k < messages; k++) {
                    seen.append(' ').append(x.deliver(from, to, 0));
                }
            }
        }
        for (int r = 0; r < 4; r++) {
            for (int what = 0; what < 7; what++) {
                seen.append(' ').append(x.count(r, what));
            }
            int length = x.length(r, 0);
            for (int place = 0; place < length; place++) {
                seen.append((char) x.character(r, 0, place));
            }
        }
        return seen.toString();
    }
}
