/** Stores in which boundary cases are tried: each is made anew, always by the same calls. */
enum Scene {
    NEW {
        ReplicaStore made() {
            return new ReplicaStore();
        }
    },

    /** Something of every kind, and messages on every WAY: 0 to 1 has 2, 0 to 2 has 5, 1 to 2 has 3, 2 to 1 has 1. */
    BUSY {
        ReplicaStore made() {
            ReplicaStore x = new ReplicaStore();
            x.add(0, 0, 5);
            x.put(0, 1, 31);
            x.insert(0, 0, 0, 'a');
            x.insert(0, 0, 1, 'b');
            x.remove(0, 0, 0);
            x.deliver(0, 1, 0);
            x.deliver(0, 1, 0);
            x.deliver(0, 1, 0);
            x.put(1, 0, 0);
            x.write(1, 1, -9);
            x.insert(1, 0, 1, 'c');
            x.take(1, 1, 31);
            x.deliver(1, 2, 2);
            x.write(2, 0, 7);
            x.ask(2, 0);
            x.tell(2, 3);
            x.add(3, 1, -1);
            x.ask(3, 1);
            return x;
        }
    },

    /** BUSY, and replica 0 is down. */
    NOUGHT_DOWN {
        ReplicaStore made() {
            ReplicaStore x = BUSY.made();
            x.power(0, false);
            return x;
        }
    },

    /** BUSY, and replica 1 is down. */
    ONE_DOWN {
        ReplicaStore made() {
            ReplicaStore x = BUSY.made();
            x.power(1, false);
            return x;
        }
    },

    /** Replica 0 has 60 OPERATIONS, of all kinds, and on its WAYS there is room for one message more. */
    SIXTY {
        ReplicaStore made() {
            ReplicaStore x = new ReplicaStore();
            for (int i = 0; i < 10; i++) {
                x.add(0, 0, 1);
                x.put(0, 0, i);
                x.take(0, 0, 9 - i);
                x.write(0, 0, i);
                x.insert(0, 0, 0, 'a');
                if (i < 9) {
                    x.remove(0, 0, 0);
                }
            }
            x.add(0, 1, 1);
            for (int to = 1; to < 4; to++) {
                x.lose(0, to, 0);
            }
            return x;
        }
    },

    /** 30 messages are on the WAY from 0 to 1. */
    THIRTY {
        ReplicaStore made() {
            ReplicaStore x = new ReplicaStore();
            x.add(0, 0, 1);
            for (int i = 0; i < 29; i++) {
                x.tell(0, 1);
            }
            return x;
        }
    };

    abstract ReplicaStore made();
}
