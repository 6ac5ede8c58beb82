import java.util.Arrays;

/** The edges of the document's 'Terms': keys, transactions, operations, groups and the coordinator. */
public final class TermsEdgeTest {
    private static final Due DUE = new Due();
    private static final int READ = Steps.READ;
    private static final int PUT = Steps.PUT;
    private static final int ADD = Steps.ADD;
    private static final int LEAST = Integer.MIN_VALUE;
    private static final int MOST = Integer.MAX_VALUE;

    public static void main(String[] args) {
        keysLieInShards();
        valuesAtFirst();
        transactionNumbers();
        operationsNone();
        operationsFour();
        touchedShards();
        operationsInOrder();
        readAnswersValue();
        putAnswersOldValue();
        addWraps();
        needsOfKinds();
        needsInBothWays();
        groupsOfLogs();
        replicasOfGroups();
        replicasAtFirst();
        replicasDown();
        coordinatorForgets();
        noneIsNoResult();
        DUE.end();
    }

    private static void keysLieInShards() {
        DUE.sentence("KEYS 0 .. 11; key k lies in SHARD k % 3.");
        for (int key = 0; key < 12; key++) {
            CommitGroups x = Steps.with(1, PUT, key, 100 + key);
            for (int s = -1; s <= 3; s++) {
                DUE.same("key " + key + ": prepare(1, " + s + ", true)", x.prepare(1, s, true), s == key % 3 ? 1 : -1);
            }
            x.decide(1, true);
            x.finish(1, key % 3);
            for (int other = -1; other <= 12; other++) {
                DUE.same("key " + key + ": value(" + other + ", 1)", x.value(other, 1), other == key ? 100 + key : 0);
            }
        }
        CommitGroups x = new CommitGroups();
        x.open();
        DUE.no("touch(1, 1, -1, 5)", x.touch(1, PUT, -1, 5));
        DUE.no("touch(1, 1, 12, 5)", x.touch(1, PUT, 12, 5));
    }

    private static void valuesAtFirst() {
        DUE.sentence("At first each key's value is 0.");
        CommitGroups x = new CommitGroups();
        for (int t = 1; t <= 3; t++) {
            int key = 4 * (t - 1);
            Steps.transaction(x, READ, key, 7, READ, key + 1, 7, READ, key + 2, 7, READ, key + 3, 7);
            Steps.commit(x, t, 0, 1, 2);
            for (int i = 0; i < 4; i++) {
                DUE.same("result(" + t + ", " + i + ")", x.result(t, i), 0);
                DUE.same("value(" + (key + i) + ", 0)", x.value(key + i, 0), 0);
            }
        }
    }

    private static void transactionNumbers() {
        DUE.sentence("TRANSACTIONS have numbers 1, 2, .. (at most 20)");
        CommitGroups x = Steps.with(20, ADD, 2, 1);
        DUE.same("open()", x.open(), -1);
        DUE.same("prepare(20, 2, true)", x.prepare(20, 2, true), 1);
        DUE.same("holds(2, 0)", x.holds(2, 0), 20);
        DUE.same("vote(20, 2)", x.vote(20, 2), 1);
        DUE.same("decide(20, true)", x.decide(20, true), 1);
        DUE.same("finish(20, 2)", x.finish(20, 2), 1);
        DUE.same("outcome(20)", x.outcome(20), 1);
        DUE.same("result(20, 0)", x.result(20, 0), 1);
        DUE.same("timeout(1, true)", x.timeout(1, true), 2);
        DUE.same("prepare(1, 2, true)", x.prepare(1, 2, true), 1);
        for (int wrong : new int[] {0, 21, 22, -1}) {
            String t = "(" + wrong;
            DUE.no("touch" + t + ", 0, 0, 0)", x.touch(wrong, READ, 0, 0));
            DUE.same("prepare" + t + ", 2, true)", x.prepare(wrong, 2, true), -1);
            DUE.same("decide" + t + ", true)", x.decide(wrong, true), -1);
            DUE.same("timeout" + t + ", true)", x.timeout(wrong, true), -1);
            DUE.same("finish" + t + ", 2)", x.finish(wrong, 2), -1);
            DUE.same("vote" + t + ", 2)", x.vote(wrong, 2), 0);
            DUE.same("outcome" + t + ")", x.outcome(wrong), 0);
            DUE.same("result" + t + ", 0)", x.result(wrong, 0), CommitGroups.NONE);
        }
    }

    private static void operationsNone() {
        DUE.sentence("and 0 to 4 OPERATIONS (number 0, 1, ..) on keys");
        CommitGroups x = new CommitGroups();
        x.open();
        for (int s = 0; s < 3; s++) {
            DUE.same("none: prepare(1, " + s + ", true)", x.prepare(1, s, true), -1);
            DUE.same("none: finish(1, " + s + ")", x.finish(1, s), -1);
            DUE.same("none: length(" + s + ", 0)", x.length(s, 0), 0);
        }
        DUE.same("none: decide(1, true)", x.decide(1, true), -1);
        DUE.same("none: timeout(1, true)", x.timeout(1, true), -1);
        DUE.same("none: length(3, 0)", x.length(3, 0), 0);
        DUE.same("none: result(1, 0)", x.result(1, 0), CommitGroups.NONE);
        DUE.same("none: outcome(1)", x.outcome(1), 0);
        DUE.yes("none: touch(1, 0, 0, 0)", x.touch(1, READ, 0, 0));
    }

    private static void operationsFour() {
        DUE.sentence("and 0 to 4 OPERATIONS (number 0, 1, ..) on keys");
        CommitGroups x = new CommitGroups();
        for (int t = 1; t <= 20; t++) {
            x.open();
            for (int i = 0; i < 4; i++) {
                DUE.yes("four: touch(" + t + ", 2, " + i + ", 1)", x.touch(t, ADD, i, 1));
            }
            DUE.no("a fifth: touch(" + t + ", 2, 4, 1)", x.touch(t, ADD, 4, 1));
        }
        for (int t = 1; t <= 20; t++) {
            Steps.commit(x, t, 0, 1, 2);
            for (int i = 0; i < 4; i++) {
                DUE.same("four: result(" + t + ", " + i + ")", x.result(t, i), t);
            }
            DUE.same("a fifth: result(" + t + ", 4)", x.result(t, 4), CommitGroups.NONE);
        }
    }

    private static void touchedShards() {
        DUE.sentence("a transaction TOUCHES the shards in which keys of its operations lie.");
        for (int set = 1; set < 8; set++) {
            CommitGroups x = new CommitGroups();
            x.open();
            for (int s = 0; s < 3; s++) {
                if ((set & 1 << s) != 0) {
                    x.touch(1, READ, 9 + s, 0);
                }
            }
            for (int s = 0; s < 3; s++) {
                boolean touched = (set & 1 << s) != 0;
                boolean more = set >> s + 1 != 0;
                String shards = "shards " + Integer.toBinaryString(set) + ": ";
                DUE.same(shards + "prepare(1, " + s + ", true)", x.prepare(1, s, true), touched ? 1 : -1);
                DUE.same(shards + "decide(1, true)", x.decide(1, true), more ? 0 : 1);
                DUE.same(shards + "finish(1, " + s + ")", x.finish(1, s), !touched ? -1 : more ? 0 : 1);
            }
        }
    }

    private static void operationsInOrder() {
        DUE.sentence("Operations, done in the order of their numbers");
        CommitGroups x = new CommitGroups();
        Steps.transaction(x, ADD, 6, 2, PUT, 6, 10, READ, 6, 0, ADD, 6, 3);
        Steps.transaction(x, PUT, 6, 1, ADD, 6, 5, ADD, 6, 7, PUT, 6, 4);
        Steps.commit(x, 1, 0);
        Steps.commit(x, 2, 0);
        long[] due = {2, 2, 10, 13, 13, 6, 13, 13};
        for (int i = 0; i < 8; i++) {
            DUE.same("result(" + (1 + i / 4) + ", " + i % 4 + ")", x.result(1 + i / 4, i % 4), due[i]);
        }
        DUE.same("value(6, 0)", x.value(6, 0), 4);
    }

    private static void readAnswersValue() {
        DUE.sentence("READ: the result is the key's value.");
        for (int value : new int[] {0, 1, -1, MOST, LEAST}) {
            CommitGroups x = new CommitGroups();
            Steps.transaction(x, PUT, 11, value);
            Steps.transaction(x, READ, 11, MOST, READ, 11, LEAST);
            Steps.commit(x, 1, 2);
            Steps.commit(x, 2, 2);
            DUE.same("result(2, 0)", x.result(2, 0), value);
            DUE.same("result(2, 1)", x.result(2, 1), value);
            DUE.same("value(11, 2)", x.value(11, 2), value);
        }
    }

    private static void putAnswersOldValue() {
        DUE.sentence("PUT v: the result is the key's value, which then becomes v.");
        int[] values = {MOST, LEAST, -1, 0, MOST - 1, 1};
        CommitGroups x = new CommitGroups();
        int old = 0;
        for (int t = 1; t <= values.length; t++) {
            Steps.transaction(x, PUT, 0, values[t - 1]);
            Steps.commit(x, t, 0);
            DUE.same("result(" + t + ", 0)", x.result(t, 0), old);
            DUE.same("value(0, 1)", x.value(0, 1), values[t - 1]);
            old = values[t - 1];
        }
    }

    private static void addWraps() {
        DUE.sentence("ADD v: the key's value grows by v (it wraps), the result is the new one.");
        int[][] sums = {
            {MOST, 1, LEAST}, {LEAST, -1, MOST}, {MOST, MOST, -2}, {LEAST, LEAST, 0}, {MOST, LEAST, -1},
            {MOST, 0, MOST}, {LEAST, 0, LEAST}, {-1, 1, 0}, {MOST - 1, 1, MOST}, {LEAST + 1, -1, LEAST},
        };
        for (int[] sum : sums) {
            String adds = sum[0] + " + " + sum[1] + ": ";
            CommitGroups x = new CommitGroups();
            Steps.transaction(x, ADD, 1, sum[0], ADD, 1, sum[1]);
            Steps.transaction(x, ADD, 4, sum[0]);
            Steps.transaction(x, ADD, 4, sum[1]);
            for (int t = 1; t <= 3; t++) {
                Steps.commit(x, t, 1);
            }
            DUE.same(adds + "result(1, 0)", x.result(1, 0), sum[0]);
            DUE.same(adds + "result(1, 1), in one transaction", x.result(1, 1), sum[2]);
            DUE.same(adds + "result(3, 0), in two", x.result(3, 0), sum[2]);
            for (int r = 0; r < 3; r++) {
                DUE.same(adds + "value(1, " + r + ")", x.value(1, r), sum[2]);
                DUE.same(adds + "value(4, " + r + ")", x.value(4, r), sum[2]);
            }
        }
    }

    private static void needsOfKinds() {
        DUE.sentence("READ needs its key SHARED, PUT and ADD need it ALONE;");
        for (int held = READ; held <= ADD; held++) {
            for (int needed = READ; needed <= ADD; needed++) {
                CommitGroups x = new CommitGroups();
                Steps.transaction(x, held, 5, 1);
                Steps.transaction(x, needed, 5, 1);
                String kinds = held + " beside " + needed + ": ";
                boolean both = held == READ && needed == READ;
                DUE.same(kinds + "prepare(1, 2, true)", x.prepare(1, 2, true), 1);
                DUE.same(kinds + "holds(5, 0)", x.holds(5, 0), held == READ ? -1 : 1);
                DUE.same(kinds + "prepare(2, 2, true)", x.prepare(2, 2, true), both ? 1 : 2);
                DUE.same(kinds + "holds(5, 0)", x.holds(5, 0), both ? -2 : held == READ ? -1 : 1);
            }
        }
    }

    private static void needsInBothWays() {
        DUE.sentence("a transaction that needs a key in both ways needs it alone.");
        for (int kind = PUT; kind <= ADD; kind++) {
            CommitGroups x = new CommitGroups();
            Steps.transaction(x, READ, 0, 0, kind, 0, 1);
            Steps.transaction(x, kind, 3, 1, READ, 3, 0);
            Steps.transaction(x, READ, 6, 0, kind, 6, 1, READ, 6, 0, READ, 9, 0);
            Steps.transaction(x, READ, 0, 0);
            Steps.transaction(x, READ, 3, 0);
            Steps.transaction(x, READ, 6, 0);
            Steps.transaction(x, READ, 9, 0, READ, 9, 0);
            Steps.transaction(x, READ, 9, 0, kind, 9, 1);
            for (int t = 1; t <= 8; t++) {
                int due = t <= 3 || t == 7 ? 1 : 2;
                DUE.same("kind " + kind + ": prepare(" + t + ", 0, true)", x.prepare(t, 0, true), due);
            }
            DUE.same("first shared, then alone: holds(0, 2)", x.holds(0, 2), 1);
            DUE.same("first alone, then shared: holds(3, 2)", x.holds(3, 2), 2);
            DUE.same("alone between: holds(6, 2)", x.holds(6, 2), 3);
            DUE.same("shared twice is not alone: holds(9, 2)", x.holds(9, 2), -2);
        }
    }

    private static void groupsOfLogs() {
        DUE.sentence("GROUPS 0, 1, 2 are those of the shards, group 3 keeps the decisions.");
        for (int s = 0; s < 3; s++) {
            CommitGroups x = Steps.with(1, ADD, 3 + s, 1);
            int[] lengths = new int[4];
            x.prepare(1, s, true);
            lengths[s]++;
            sameLengths(x, "prepare(1, " + s + ", true)", lengths);
            x.decide(1, true);
            lengths[3]++;
            sameLengths(x, "decide(1, true)", lengths);
            x.finish(1, s);
            lengths[s]++;
            sameLengths(x, "finish(1, " + s + ")", lengths);
        }
        CommitGroups x = Steps.with(1, ADD, 0, 1);
        x.timeout(1, true);
        sameLengths(x, "timeout(1, true)", new int[] {0, 0, 0, 1});
    }

    private static void sameLengths(CommitGroups x, String after, int[] lengths) {
        for (int g = 0; g < 4; g++) {
            DUE.same("length(" + g + ", 0) after " + after, x.length(g, 0), lengths[g]);
            DUE.same("executed(" + g + ", 2) after " + after, x.executed(g, 2), lengths[g]);
        }
    }

    private static void replicasOfGroups() {
        DUE.sentence("A group has REPLICAS 0, 1, 2.");
        CommitGroups x = new CommitGroups();
        for (int g = 0; g < 4; g++) {
            for (int r = -1; r <= 3; r++) {
                boolean there = r >= 0 && r <= 2;
                String replica = "(" + g + ", " + r + ")";
                DUE.same("view" + replica, x.view(g, r), there ? 0 : -1);
                DUE.same("length" + replica, x.length(g, r), there ? 0 : -1);
                DUE.same("executed" + replica, x.executed(g, r), there ? 0 : -1);
                DUE.same("crash" + replica, x.crash(g, r) ? 1 : 0, there ? 1 : 0);
                DUE.same("restart" + replica, x.restart(g, r) ? 1 : 0, there ? 1 : 0);
            }
        }
    }

    private static void replicasAtFirst() {
        DUE.sentence("All are up at first, with empty logs.");
        CommitGroups x = new CommitGroups();
        for (int g = 0; g < 4; g++) {
            for (int r = 0; r < 3; r++) {
                DUE.same("length(" + g + ", " + r + ")", x.length(g, r), 0);
                DUE.no("restart(" + g + ", " + r + ")", x.restart(g, r));
                DUE.yes("crash(" + g + ", " + r + ")", x.crash(g, r));
            }
        }
    }

    private static void replicasDown() {
        DUE.sentence("A replica is up or down and has, up or down, a VIEW (0 at first), a LOG of at most 60 "
                + "entries, and a number EXECUTED: so many entries from the beginning of its log it has "
                + "executed, in their order, on a state of its own.");
        CommitGroups x = Steps.with(2, READ, 0, 0);
        x.elect(0);
        x.prepare(1, 0, true);
        Steps.crashAll(x, 0);
        for (int r = 0; r < 3; r++) {
            DUE.same("down: view(0, " + r + ")", x.view(0, r), 1);
            DUE.same("down: length(0, " + r + ")", x.length(0, r), 1);
            DUE.same("down: executed(0, " + r + ")", x.executed(0, r), 1);
        }
        x.restart(0, 1);
        for (int i = 2; i <= 60; i++) {
            x.prepare(2, 0, true);
        }
        DUE.same("full: length(0, 1)", x.length(0, 1), 60);
        x.prepare(2, 0, true);
        DUE.same("never more: length(0, 1)", x.length(0, 1), 60);
        x.crash(0, 1);
        DUE.same("down and full: length(0, 1)", x.length(0, 1), 60);
        DUE.same("down and full: executed(0, 1)", x.executed(0, 1), 1);
        x.restart(0, 1);
        x.restart(0, 2);
        x.elect(0);
        DUE.same("all of it: executed(0, 1)", x.executed(0, 1), 60);
        DUE.same("all of it: executed(0, 2)", x.executed(0, 2), 60);
        DUE.same("all of it: length(0, 2)", x.length(0, 2), 60);
        DUE.same("none of it, down: executed(0, 0)", x.executed(0, 0), 1);
    }

    private static void coordinatorForgets() {
        DUE.sentence("when it goes down it forgets all of them.");
        CommitGroups x = new CommitGroups();
        for (int t = 1; t <= 20; t++) {
            Steps.transaction(x, READ, 0, 0, READ, 1, 0, READ, 2, 0);
            for (int s = 0; s < 3; s++) {
                x.prepare(t, s, true);
            }
            boolean even = t % 2 == 0;
            DUE.same("decision on " + t, even ? x.decide(t, true) : x.timeout(t, true), even ? 1 : 2);
        }
        DUE.same("result(20, 2)", x.result(20, 2), 0);
        x.halt();
        x.resume();
        for (int t = 1; t <= 20; t++) {
            DUE.same("outcome(" + t + ")", x.outcome(t), 0);
            DUE.same("result(" + t + ", 0)", x.result(t, 0), CommitGroups.NONE);
            for (int s = 0; s < 3; s++) {
                DUE.same("vote(" + t + ", " + s + ")", x.vote(t, s), 0);
            }
        }
        DUE.same("decide(20, true)", x.decide(20, true), 0);
        DUE.same("finish(20, 0)", x.finish(20, 0), 0);
    }

    private static void noneIsNoResult() {
        DUE.sentence("`NONE = 1L << 40`: What result() answers when there is none.");
        DUE.same("NONE", CommitGroups.NONE, 1099511627776L);
        CommitGroups x = Steps.with(1, ADD, 0, 0);
        DUE.same("result(1, 0), not asked", x.result(1, 0), CommitGroups.NONE);
        Steps.commit(x, 1, 0);
        DUE.same("result(1, 0)", x.result(1, 0), 0);
        long[] empty = Steps.look(new CommitGroups());
        DUE.same("a new object's results", Arrays.stream(empty).filter(n -> n == CommitGroups.NONE).count(), 80);
    }
}
