/** Promises 20 and 21: the values and the holders of keys, replica by replica. */
public final class StateTest {
    private static final Due DUE = new Due();
    private static final int[] WRONG_KEYS = {-1, -12, 12, 13, Integer.MIN_VALUE, Integer.MAX_VALUE};
    private static final int[] WRONG_REPLICAS = {-1, 3, 4, 9, Integer.MIN_VALUE, Integer.MAX_VALUE};

    public static void main(String[] args) {
        valuesOfAllKeys();
        valuesOfReplicas();
        valuesInOrder();
        holdersShared();
        holdersAlone();
        holdersOfBothNeeds();
        holdersOfReplicas();
        holdersOfOtherKeys();
        DUE.end();
    }

    private static void commit(CommitGroups x, int t, int... shards) {
        for (int s : shards) {
            x.prepare(t, s, true);
        }
        x.decide(t, true);
        for (int s : shards) {
            x.finish(t, s);
        }
    }

    private static void valuesOfAllKeys() {
        DUE.part("promise 20");
        CommitGroups x = new CommitGroups();
        for (int t = 1; t <= 3; t++) {
            x.open();
            for (int key = 4 * t - 4; key < 4 * t; key++) {
                x.touch(t, 1, key, 100 + key);
            }
            commit(x, t, 0, 1, 2);
        }
        for (int key = 0; key < 12; key++) {
            for (int r = 0; r < 3; r++) {
                DUE.same("value(" + key + ", " + r + ")", x.value(key, r), 100 + key);
            }
        }
        for (int wrong : WRONG_KEYS) {
            DUE.same("value(" + wrong + ", 0)", x.value(wrong, 0), 0);
        }
        for (int wrong : WRONG_REPLICAS) {
            DUE.same("value(0, " + wrong + ")", x.value(0, wrong), 0);
        }
    }

    private static void valuesOfReplicas() {
        DUE.part("promise 20, replicas");
        CommitGroups x = new CommitGroups();
        for (int t = 1; t <= 3; t++) {
            x.open();
            x.touch(t, 2, 5, 10);
        }
        commit(x, 1, 2);
        x.crash(2, 1);
        commit(x, 2, 2);
        DUE.same("value(5, 0)", x.value(5, 0), 20);
        DUE.same("value(5, 1), down", x.value(5, 1), 10);
        x.restart(2, 1);
        DUE.same("value(5, 1), up", x.value(5, 1), 10);
        x.prepare(3, 2, true);
        DUE.same("value(5, 1), the same log again", x.value(5, 1), 20);
        x.decide(3, true);
        DUE.same("value(5, 0), decided but not told", x.value(5, 0), 20);
        x.crash(2, 1);
        x.crash(2, 2);
        DUE.same("finish(3, 2), alone", x.finish(3, 2), -5);
        DUE.same("value(5, 0), not executed", x.value(5, 0), 20);
        DUE.same("holds(5, 0), not executed", x.holds(5, 0), 3);
        x.restart(2, 2);
        DUE.same("finish(3, 2), two entries COMMIT now", x.finish(3, 2), 1);
        DUE.same("length(2, 2)", x.length(2, 2), 7);
        DUE.same("value(5, 0), done once", x.value(5, 0), 30);
        DUE.same("value(5, 2), done once", x.value(5, 2), 30);
    }

    private static void valuesInOrder() {
        DUE.part("promise 20, operations in their order");
        CommitGroups x = new CommitGroups();
        x.open();
        x.touch(1, 2, 7, 5);
        x.touch(1, 1, 7, Integer.MIN_VALUE);
        x.touch(1, 2, 7, -1);
        x.touch(1, 0, 7, 3);
        x.prepare(1, 1, true);
        DUE.same("value(7, 0), tried only", x.value(7, 0), 0);
        commit(x, 1, 1);
        DUE.same("value(7, 0), it wraps", x.value(7, 0), Integer.MAX_VALUE);
        DUE.same("result(1, 0)", x.result(1, 0), 5);
        DUE.same("result(1, 1)", x.result(1, 1), 5);
        DUE.same("result(1, 2)", x.result(1, 2), Integer.MAX_VALUE);
        DUE.same("result(1, 3)", x.result(1, 3), Integer.MAX_VALUE);
    }

    private static void holdersShared() {
        DUE.part("promise 21, shared");
        CommitGroups x = new CommitGroups();
        for (int t = 1; t <= 20; t++) {
            x.open();
            x.touch(t, 0, 8, 0);
            if (t == 2) {
                x.touch(t, 0, 8, 0);
            }
            DUE.same("prepare(" + t + ", 2, true)", x.prepare(t, 2, true), 1);
            DUE.same("holds(8, 2)", x.holds(8, 2), -t);
        }
        commit(x, 20, 2);
        DUE.same("holds(8, 0)", x.holds(8, 0), -19);
        x.timeout(2, true);
        x.finish(2, 2);
        DUE.same("holds(8, 0)", x.holds(8, 0), -18);
        for (int wrong : WRONG_KEYS) {
            DUE.same("holds(" + wrong + ", 0)", x.holds(wrong, 0), 0);
        }
        for (int wrong : WRONG_REPLICAS) {
            DUE.same("holds(8, " + wrong + ")", x.holds(8, wrong), 0);
        }
    }

    private static void holdersAlone() {
        DUE.part("promise 21, alone");
        CommitGroups x = new CommitGroups();
        int[] kinds = {1, 2, 0, 0, 1, 2};
        for (int t = 1; t <= 6; t++) {
            x.open();
            x.touch(t, kinds[t - 1], 3, 1);
        }
        DUE.same("PUT takes it", x.prepare(1, 0, true), 1);
        DUE.same("holds(3, 0)", x.holds(3, 0), 1);
        DUE.same("ADD beside PUT", x.prepare(2, 0, true), 2);
        DUE.same("READ beside PUT", x.prepare(3, 0, true), 2);
        DUE.same("holds(3, 1)", x.holds(3, 1), 1);
        x.timeout(1, true);
        x.finish(1, 0);
        DUE.same("holds(3, 1), aborted", x.holds(3, 1), 0);
        DUE.same("READ takes it", x.prepare(4, 0, true), 1);
        DUE.same("PUT beside READ", x.prepare(5, 0, true), 2);
        DUE.same("holds(3, 2)", x.holds(3, 2), -1);
        commit(x, 4, 0);
        DUE.same("ADD takes it", x.prepare(6, 0, true), 1);
        DUE.same("holds(3, 2)", x.holds(3, 2), 6);
        DUE.same("a NO stays a NO", x.prepare(5, 0, true), 2);
        x.decide(5, true);
        x.finish(5, 0);
        DUE.same("holds(3, 2), an ABORT of another", x.holds(3, 2), 6);
    }

    private static void holdersOfBothNeeds() {
        DUE.part("promise 21, both needs");
        CommitGroups x = new CommitGroups();
        for (int t = 1; t <= 3; t++) {
            x.open();
        }
        x.touch(1, 0, 1, 0);
        x.touch(1, 2, 1, 4);
        x.touch(2, 2, 4, 4);
        x.touch(2, 0, 4, 0);
        x.touch(3, 0, 1, 0);
        x.touch(3, 0, 10, 0);
        DUE.same("prepare(1, 1, true)", x.prepare(1, 1, true), 1);
        DUE.same("READ then ADD: holds(1, 0)", x.holds(1, 0), 1);
        DUE.same("prepare(2, 1, true)", x.prepare(2, 1, true), 1);
        DUE.same("ADD then READ: holds(4, 0)", x.holds(4, 0), 2);
        DUE.same("prepare(3, 1, true)", x.prepare(3, 1, true), 2);
        DUE.same("a NO holds none of its keys: holds(10, 0)", x.holds(10, 0), 0);
    }

    private static void holdersOfReplicas() {
        DUE.part("promise 21, replicas");
        CommitGroups x = new CommitGroups();
        for (int t = 1; t <= 2; t++) {
            x.open();
            x.touch(t, 0, 0, 0);
        }
        x.prepare(1, 0, true);
        x.crash(0, 2);
        x.prepare(2, 0, true);
        DUE.same("holds(0, 0)", x.holds(0, 0), -2);
        DUE.same("holds(0, 1)", x.holds(0, 1), -2);
        DUE.same("holds(0, 2), down", x.holds(0, 2), -1);
        x.restart(0, 2);
        x.elect(0);
        DUE.same("holds(0, 2)", x.holds(0, 2), -2);
    }

    private static void holdersOfOtherKeys() {
        DUE.part("promise 21, other keys and shards");
        CommitGroups x = new CommitGroups();
        for (int t = 1; t <= 2; t++) {
            x.open();
        }
        x.touch(1, 1, 0, 1);
        x.touch(1, 0, 3, 1);
        x.touch(1, 0, 1, 1);
        x.touch(2, 1, 6, 1);
        x.touch(2, 0, 3, 1);
        x.touch(2, 1, 1, 1);
        DUE.same("prepare(1, 0, true)", x.prepare(1, 0, true), 1);
        DUE.same("prepare(2, 0, true)", x.prepare(2, 0, true), 1);
        DUE.same("holds(0, 0)", x.holds(0, 0), 1);
        DUE.same("holds(3, 0)", x.holds(3, 0), -2);
        DUE.same("holds(6, 0)", x.holds(6, 0), 2);
        DUE.same("holds(9, 0)", x.holds(9, 0), 0);
        DUE.same("holds(1, 0), shard 1 was not asked", x.holds(1, 0), 0);
        DUE.same("prepare(2, 1, true)", x.prepare(2, 1, true), 1);
        DUE.same("prepare(1, 1, true)", x.prepare(1, 1, true), 2);
        x.decide(1, true);
        x.finish(1, 0);
        DUE.same("holds(0, 0)", x.holds(0, 0), 0);
        DUE.same("holds(3, 0)", x.holds(3, 0), -1);
        DUE.same("value(0, 0), aborted", x.value(0, 0), 0);
    }
}
