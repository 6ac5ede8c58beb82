/** Calls that many tests begin with, and a look at all that an object tells. */
final class Steps {
    static final int READ = 0;
    static final int PUT = 1;
    static final int ADD = 2;

    /** Numbers that are no key, shard, group, replica, kind or transaction of any object. */
    static final int[] NOWHERE = {-1, -2, -3, -12, -20, 21, 60, 63, Integer.MIN_VALUE, Integer.MAX_VALUE};

    private Steps() {
    }

    /** A new transaction; each three numbers are the kind, the key and the v of an operation. */
    static int transaction(CommitGroups x, int... operations) {
        int t = x.open();
        for (int i = 0; i < operations.length; i += 3) {
            x.touch(t, operations[i], operations[i + 1], operations[i + 2]);
        }
        return t;
    }

    /** A new object with transactions 1 .. n, of which each has this one operation. */
    static CommitGroups with(int n, int kind, int key, int v) {
        CommitGroups x = new CommitGroups();
        for (int t = 1; t <= n; t++) {
            transaction(x, kind, key, v);
        }
        return x;
    }

    /** Replica 0 of the group is left alone. */
    static void leaveAlone(CommitGroups x, int g) {
        x.crash(g, 1);
        x.crash(g, 2);
    }

    static void crashAll(CommitGroups x, int g) {
        for (int r = 0; r < 3; r++) {
            x.crash(g, r);
        }
    }

    static void restartAll(CommitGroups x, int g) {
        for (int r = 0; r < 3; r++) {
            x.restart(g, r);
        }
    }

    /** Asks, decides and tells: the transaction is committed in these shards, all that it touches. */
    static void commit(CommitGroups x, int t, int... shards) {
        for (int s : shards) {
            x.prepare(t, s, true);
        }
        x.decide(t, true);
        for (int s : shards) {
            x.finish(t, s);
        }
    }

    /** A leader alone asks for the vote on t, until its log has so many entries. */
    static void fill(CommitGroups x, int s, int t, int entries) {
        for (int i = x.length(s, 0); i < entries; i++) {
            x.prepare(t, s, true);
        }
    }

    /** All that an object tells without being changed, in 272 calls. */
    static long[] look(CommitGroups x) {
        long[] seen = new long[272];
        int n = 0;
        for (int g = 0; g < 4; g++) {
            seen[n++] = x.leader(g);
            for (int r = 0; r < 3; r++) {
                seen[n++] = x.view(g, r);
                seen[n++] = x.length(g, r);
                seen[n++] = x.executed(g, r);
            }
        }
        for (int key = 0; key < 12; key++) {
            for (int r = 0; r < 3; r++) {
                seen[n++] = x.value(key, r);
                seen[n++] = x.holds(key, r);
            }
        }
        for (int t = 1; t <= 20; t++) {
            seen[n++] = x.outcome(t);
            for (int s = 0; s < 3; s++) {
                seen[n++] = x.vote(t, s);
            }
            for (int i = 0; i < 4; i++) {
                seen[n++] = x.result(t, i);
            }
        }
        return seen;
    }
}
