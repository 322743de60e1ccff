/** The calls of the face that take arguments, so that a test can go through the arguments one by one. */
enum Call {
    ADD(0, 0, 1) {
        int on(ReplicaStore x, int... a) {
            return x.add(a[0], a[1], a[2]);
        }
    },
    PUT(0, 0, 1) {
        int on(ReplicaStore x, int... a) {
            return x.put(a[0], a[1], a[2]);
        }
    },
    TAKE(0, 0, 1) {
        int on(ReplicaStore x, int... a) {
            return x.take(a[0], a[1], a[2]);
        }
    },
    WRITE(0, 0, 1) {
        int on(ReplicaStore x, int... a) {
            return x.write(a[0], a[1], a[2]);
        }
    },
    INSERT(0, 0, 0, 'x') {
        int on(ReplicaStore x, int... a) {
            return x.insert(a[0], a[1], a[2], a[3]);
        }
    },
    REMOVE(0, 0, 0) {
        int on(ReplicaStore x, int... a) {
            return x.remove(a[0], a[1], a[2]);
        }
    },
    DELIVER(0, 1, 0) {
        int on(ReplicaStore x, int... a) {
            return x.deliver(a[0], a[1], a[2]);
        }
    },
    COPY(0, 1, 0) {
        int on(ReplicaStore x, int... a) {
            return x.copy(a[0], a[1], a[2]);
        }
    },
    LOSE(0, 1, 0) {
        int on(ReplicaStore x, int... a) {
            return x.lose(a[0], a[1], a[2]);
        }
    },
    ASK(0, 1) {
        int on(ReplicaStore x, int... a) {
            return x.ask(a[0], a[1]);
        }
    },
    TELL(0, 1) {
        int on(ReplicaStore x, int... a) {
            return x.tell(a[0], a[1]);
        }
    },
    POWER(0, 0) {
        int on(ReplicaStore x, int... a) {
            return x.power(a[0], a[1] == 1);
        }
    },
    COUNTER(0, 0) {
        int on(ReplicaStore x, int... a) {
            return x.counter(a[0], a[1]);
        }
    },
    HAS(0, 1, 31) {
        int on(ReplicaStore x, int... a) {
            return x.has(a[0], a[1], a[2]);
        }
    },
    SIZE(0, 1) {
        int on(ReplicaStore x, int... a) {
            return x.size(a[0], a[1]);
        }
    },
    REGISTER(2, 0) {
        int on(ReplicaStore x, int... a) {
            return x.register(a[0], a[1]);
        }
    },
    LENGTH(0, 0) {
        int on(ReplicaStore x, int... a) {
            return x.length(a[0], a[1]);
        }
    },
    CHARACTER(0, 0, 0) {
        int on(ReplicaStore x, int... a) {
            return x.character(a[0], a[1], a[2]);
        }
    },
    CLOCK(0, 0) {
        int on(ReplicaStore x, int... a) {
            return x.clock(a[0], a[1]);
        }
    },
    KNOWS(1, 0, 0) {
        int on(ReplicaStore x, int... a) {
            return x.knows(a[0], a[1], a[2]);
        }
    },
    COUNT(0, 0) {
        int on(ReplicaStore x, int... a) {
            return x.count(a[0], a[1]);
        }
    },
    MESSAGE(0, 1, 0, 3) {
        int on(ReplicaStore x, int... a) {
            return x.message(a[0], a[1], a[2], a[3]);
        }
    },
    WAY(0, 1) {
        int on(ReplicaStore x, int... a) {
            return x.way(a[0], a[1]);
        }
    };

    private final int[] right;

    /** Arguments to which Scene.BUSY answers with more than 0. */
    Call(int... right) {
        this.right = right;
    }

    abstract int on(ReplicaStore x, int... a);

    int[] right() {
        return right.clone();
    }

    /** The right arguments, but for one. */
    int[] rightBut(int position, int value) {
        int[] arguments = right();
        arguments[position] = value;
        return arguments;
    }

    String text(int... arguments) {
        StringBuilder text = new StringBuilder(name().toLowerCase()).append('(');
        for (int i = 0; i < arguments.length; i++) {
            text.append(i == 0 ? "" : ", ").append(arguments[i]);
        }
        return text.append(')').toString();
    }
}
