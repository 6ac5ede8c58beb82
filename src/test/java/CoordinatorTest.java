/** Promises 4 to 10, 14 and 15: what the coordinator asks, decides, tells, knows and forgets. */
public final class CoordinatorTest {
    private static final Due DUE = new Due();

    public static void main(String[] args) {
        prepareAnswers();
        prepareRefusals();
        prepareFailures();
        prepareTakesOldVote();
        prepareTwiceInLog();
        decideAnswers();
        decideRefusals();
        decideFailures();
        decideWithOlderEntry();
        timeoutAnswers();
        timeoutRefusals();
        timeoutFailures();
        finishAnswers();
        finishRefusals();
        finishFailures();
        voteKnown();
        outcomeKnown();
        resultKnown();
        resultAfterOthers();
        haltForgets();
        resumeKnowsNothing();
        DUE.end();
    }

    /** A new object whose transaction t (1, 2, ..) adds 1 to each of the keys of row t - 1. */
    private static CommitGroups adding(int[]... rows) {
        CommitGroups x = new CommitGroups();
        for (int[] keys : rows) {
            int t = x.open();
            for (int key : keys) {
                x.touch(t, 2, key, 1);
            }
        }
        return x;
    }

    private static int[] keys(int... keys) {
        return keys;
    }

    private static void leaderAlone(CommitGroups x, int g) {
        x.crash(g, 1);
        x.crash(g, 2);
    }

    private static void prepareAnswers() {
        DUE.part("promise 4");
        CommitGroups x = adding(keys(0, 1), keys(0), keys(3));
        DUE.same("prepare(1, 0, true)", x.prepare(1, 0, true), 1);
        DUE.same("prepare(2, 0, true), key 0 is held", x.prepare(2, 0, true), 2);
        DUE.same("prepare(3, 0, false)", x.prepare(3, 0, false), 3);
        DUE.same("length(0, 2)", x.length(0, 2), 3);
        DUE.same("executed(0, 2)", x.executed(0, 2), 3);
        DUE.same("vote(3, 0) did not come back", x.vote(3, 0), 0);
        DUE.same("holds(3, 1) all the same", x.holds(3, 1), 3);
        DUE.same("prepare(3, 0, true)", x.prepare(3, 0, true), 1);
        DUE.same("prepare(2, 0, false)", x.prepare(2, 0, false), 3);
        DUE.same("nothing new is logged: length(0, 0)", x.length(0, 0), 3);
        DUE.same("the other groups' logs: length(1, 0)", x.length(1, 0), 0);
        DUE.same("the other groups' logs: length(3, 0)", x.length(3, 0), 0);
    }

    private static void prepareRefusals() {
        DUE.part("promise 4, wrong inputs");
        CommitGroups x = adding(keys(0, 4));
        for (int wrong : new int[] {0, 2, -1, 20, 21, Integer.MIN_VALUE, Integer.MAX_VALUE}) {
            DUE.same("prepare(" + wrong + ", 0, true)", x.prepare(wrong, 0, true), -1);
        }
        for (int wrong : new int[] {2, 3, -1, -3, Integer.MIN_VALUE, Integer.MAX_VALUE}) {
            DUE.same("prepare(1, " + wrong + ", true)", x.prepare(1, wrong, true), -1);
        }
        x.halt();
        DUE.same("down, no shard 3", x.prepare(1, 3, true), -1);
        DUE.same("down, shard 2 is not touched", x.prepare(1, 2, true), -1);
        for (int r = 0; r < 3; r++) {
            x.crash(0, r);
        }
        DUE.same("down, and no leader", x.prepare(1, 0, true), -2);
        DUE.same("length(0, 0)", x.length(0, 0), 0);
    }

    private static void prepareFailures() {
        DUE.part("promise 4, failures");
        CommitGroups x = adding(keys(0), keys(0));
        x.prepare(1, 0, true);
        leaderAlone(x, 0);
        for (int i = 1; i < 60; i++) {
            DUE.same("prepare(2, 0, true), alone", x.prepare(2, 0, true), -5);
            DUE.same("length(0, 0)", x.length(0, 0), i + 1);
        }
        DUE.same("prepare(2, 0, true), full", x.prepare(2, 0, true), -4);
        DUE.same("length(0, 0)", x.length(0, 0), 60);
        DUE.same("executed(0, 0)", x.executed(0, 0), 1);
        DUE.same("vote(2, 0)", x.vote(2, 0), 0);
        DUE.same("prepare(1, 0, true), voted before", x.prepare(1, 0, true), 1);
        x.restart(0, 1);
        DUE.same("prepare(2, 0, true), full", x.prepare(2, 0, true), -4);
        DUE.same("nothing is exchanged: length(0, 1)", x.length(0, 1), 1);
        x.crash(0, 0);
        DUE.same("prepare(1, 0, true), no leader", x.prepare(1, 0, true), -3);
    }

    private static void prepareTakesOldVote() {
        DUE.part("promise 4, the vote of an older entry");
        CommitGroups x = adding(keys(0), keys(0));
        leaderAlone(x, 0);
        x.prepare(1, 0, true);
        x.restart(0, 2);
        DUE.same("prepare(2, 0, true), after 1 in the log", x.prepare(2, 0, true), 2);
        DUE.same("length(0, 2)", x.length(0, 2), 2);
        DUE.same("prepare(1, 0, true)", x.prepare(1, 0, true), 1);
        DUE.same("length(0, 2)", x.length(0, 2), 2);
        x.timeout(1, true);
        x.finish(1, 0);
        DUE.same("prepare(1, 0, true), aborted", x.prepare(1, 0, true), 1);
        DUE.same("prepare(2, 0, true), free now", x.prepare(2, 0, true), 2);
    }

    private static void prepareTwiceInLog() {
        DUE.part("promise 4, PREPARE twice in the log");
        CommitGroups x = adding(keys(0), keys(0));
        x.prepare(1, 0, true);
        x.decide(1, true);
        leaderAlone(x, 0);
        DUE.same("prepare(2, 0, true), alone", x.prepare(2, 0, true), -5);
        DUE.same("finish(1, 0), alone", x.finish(1, 0), -5);
        x.restart(0, 1);
        DUE.same("prepare(2, 0, true), the first of the two counts", x.prepare(2, 0, true), 2);
        DUE.same("length(0, 1)", x.length(0, 1), 4);
        DUE.same("holds(0, 1)", x.holds(0, 1), 0);
        DUE.same("value(0, 1)", x.value(0, 1), 1);
    }

    private static void decideAnswers() {
        DUE.part("promise 5");
        CommitGroups x = adding(keys(0, 1, 2), keys(0, 3), keys(4), keys(4, 2));
        DUE.same("decide(1, true), no vote", x.decide(1, true), 0);
        x.prepare(1, 0, true);
        x.prepare(1, 1, true);
        DUE.same("decide(1, true), two votes of three", x.decide(1, true), 0);
        DUE.same("length(3, 0)", x.length(3, 0), 0);
        x.prepare(1, 2, true);
        DUE.same("decide(1, false)", x.decide(1, false), 3);
        DUE.same("outcome(1)", x.outcome(1), 0);
        DUE.same("length(3, 0)", x.length(3, 0), 1);
        DUE.same("decide(1, true)", x.decide(1, true), 1);
        DUE.same("length(3, 0)", x.length(3, 0), 1);
        DUE.same("decide(1, false), known", x.decide(1, false), 1);
        x.prepare(2, 0, true);
        DUE.same("decide(2, true), NO is enough", x.decide(2, true), 2);
        DUE.same("decide(2, false), known", x.decide(2, false), 2);
        x.prepare(3, 1, true);
        DUE.same("decide(3, true), one shard", x.decide(3, true), 1);
        x.prepare(4, 2, true);
        DUE.same("decide(4, false), NO beside an unknown vote", x.decide(4, false), 3);
        DUE.same("decide(4, true)", x.decide(4, true), 2);
        DUE.same("length(3, 2)", x.length(3, 2), 4);
    }

    private static void decideRefusals() {
        DUE.part("promise 5, wrong inputs");
        CommitGroups x = adding(keys(0), keys());
        for (int wrong : new int[] {2, 3, 0, -1, 21, Integer.MIN_VALUE, Integer.MAX_VALUE}) {
            DUE.same("decide(" + wrong + ", true)", x.decide(wrong, true), -1);
        }
        x.prepare(1, 0, true);
        x.halt();
        DUE.same("decide(2, true), down", x.decide(2, true), -1);
        DUE.same("decide(1, true), down", x.decide(1, true), -2);
        x.resume();
        DUE.same("decide(1, true), forgotten", x.decide(1, true), 0);
    }

    private static void decideFailures() {
        DUE.part("promise 5, failures");
        CommitGroups x = adding(keys(0), keys(1));
        x.prepare(1, 0, true);
        x.prepare(2, 1, true);
        DUE.same("decide(1, false)", x.decide(1, false), 3);
        leaderAlone(x, 3);
        for (int i = 1; i < 60; i++) {
            DUE.same("decide(2, true), alone", x.decide(2, true), -5);
        }
        DUE.same("decide(2, true), full", x.decide(2, true), -4);
        DUE.same("outcome(2)", x.outcome(2), 0);
        DUE.same("decide(1, true), decided before", x.decide(1, true), 1);
        x.crash(3, 0);
        DUE.same("decide(2, true), no leader", x.decide(2, true), -3);
        DUE.same("decide(1, true), known", x.decide(1, true), 1);
    }

    private static void decideWithOlderEntry() {
        DUE.part("promise 5, an older entry decides");
        CommitGroups x = adding(keys(0));
        x.prepare(1, 0, true);
        leaderAlone(x, 3);
        DUE.same("timeout(1, true), alone", x.timeout(1, true), -5);
        x.restart(3, 1);
        DUE.same("decide(1, true), all voted YES", x.decide(1, true), 2);
        DUE.same("outcome(1)", x.outcome(1), 2);
        DUE.same("length(3, 0)", x.length(3, 0), 2);
        DUE.same("executed(3, 1)", x.executed(3, 1), 2);
    }

    private static void timeoutAnswers() {
        DUE.part("promise 6");
        CommitGroups x = adding(keys(0), keys(0), keys(1));
        DUE.same("timeout(1, false)", x.timeout(1, false), 3);
        DUE.same("outcome(1)", x.outcome(1), 0);
        DUE.same("timeout(1, true)", x.timeout(1, true), 2);
        DUE.same("timeout(1, false), known", x.timeout(1, false), 2);
        DUE.same("length(3, 0)", x.length(3, 0), 1);
        x.prepare(2, 0, true);
        DUE.same("decide(2, false)", x.decide(2, false), 3);
        DUE.same("timeout(2, true), committed before", x.timeout(2, true), 1);
        DUE.same("timeout(2, false), known", x.timeout(2, false), 1);
        x.prepare(3, 1, true);
        DUE.same("timeout(3, true), all voted YES", x.timeout(3, true), 2);
        DUE.same("decide(3, true)", x.decide(3, true), 2);
        DUE.same("length(3, 1)", x.length(3, 1), 3);
    }

    private static void timeoutRefusals() {
        DUE.part("promise 6, wrong inputs");
        CommitGroups x = adding(keys(0), keys());
        for (int wrong : new int[] {2, 3, 0, -1, 21, Integer.MIN_VALUE, Integer.MAX_VALUE}) {
            DUE.same("timeout(" + wrong + ", true)", x.timeout(wrong, true), -1);
        }
        x.halt();
        DUE.same("timeout(2, true), down", x.timeout(2, true), -1);
        DUE.same("timeout(1, true), down", x.timeout(1, true), -2);
        DUE.same("length(3, 0)", x.length(3, 0), 0);
    }

    private static void timeoutFailures() {
        DUE.part("promise 6, failures");
        CommitGroups x = adding(keys(0), keys(1));
        x.timeout(1, true);
        leaderAlone(x, 3);
        for (int i = 1; i < 60; i++) {
            DUE.same("timeout(2, true), alone", x.timeout(2, true), -5);
        }
        DUE.same("timeout(2, true), full", x.timeout(2, true), -4);
        DUE.same("executed(3, 0)", x.executed(3, 0), 1);
        x.crash(3, 0);
        DUE.same("timeout(2, true), no leader", x.timeout(2, true), -3);
        DUE.same("timeout(1, true), known", x.timeout(1, true), 2);
        x.restart(3, 0);
        x.restart(3, 2);
        DUE.same("elect(3)", x.elect(3), 2);
        DUE.same("timeout(2, true), executed by the new view", x.timeout(2, true), 2);
    }

    private static void finishAnswers() {
        DUE.part("promise 7");
        CommitGroups x = adding(keys(0, 1), keys(0, 4));
        x.prepare(1, 0, true);
        x.prepare(1, 1, true);
        DUE.same("finish(1, 0), undecided", x.finish(1, 0), 0);
        x.decide(1, true);
        DUE.same("finish(1, 0)", x.finish(1, 0), 1);
        DUE.same("length(0, 0)", x.length(0, 0), 2);
        DUE.same("value(0, 2)", x.value(0, 2), 1);
        DUE.same("holds(0, 2)", x.holds(0, 2), 0);
        DUE.same("finish(1, 0) again", x.finish(1, 0), 1);
        DUE.same("length(0, 0)", x.length(0, 0), 2);
        DUE.same("value(0, 2)", x.value(0, 2), 1);
        DUE.same("the other shard waits: holds(1, 0)", x.holds(1, 0), 1);
        x.prepare(2, 0, true);
        x.timeout(2, true);
        DUE.same("finish(2, 0), ABORT", x.finish(2, 0), 1);
        DUE.same("holds(0, 0)", x.holds(0, 0), 0);
        DUE.same("value(0, 0)", x.value(0, 0), 1);
        DUE.same("finish(2, 1), not asked before", x.finish(2, 1), 1);
        DUE.same("prepare(2, 1, true), voted NO by this", x.prepare(2, 1, true), 2);
    }

    private static void finishRefusals() {
        DUE.part("promise 7, wrong inputs");
        CommitGroups x = adding(keys(0, 4), keys());
        x.timeout(1, true);
        for (int wrong : new int[] {0, 2, 3, -1, 21, Integer.MIN_VALUE, Integer.MAX_VALUE}) {
            DUE.same("finish(" + wrong + ", 0)", x.finish(wrong, 0), -1);
        }
        for (int wrong : new int[] {2, 3, -1, -3, Integer.MIN_VALUE, Integer.MAX_VALUE}) {
            DUE.same("finish(1, " + wrong + ")", x.finish(1, wrong), -1);
        }
        x.halt();
        DUE.same("finish(1, 2), down", x.finish(1, 2), -1);
        DUE.same("finish(1, 0), down", x.finish(1, 0), -2);
        x.resume();
        DUE.same("finish(1, 0), forgotten", x.finish(1, 0), 0);
        DUE.same("length(0, 0)", x.length(0, 0), 0);
    }

    private static void finishFailures() {
        DUE.part("promise 7, failures");
        CommitGroups x = adding(keys(0), keys(3));
        x.timeout(1, true);
        DUE.same("finish(1, 0)", x.finish(1, 0), 1);
        x.timeout(2, true);
        leaderAlone(x, 0);
        for (int i = 1; i < 60; i++) {
            DUE.same("finish(2, 0), alone", x.finish(2, 0), -5);
        }
        DUE.same("finish(2, 0), full", x.finish(2, 0), -4);
        DUE.same("finish(1, 0), finished before", x.finish(1, 0), 1);
        x.crash(0, 0);
        DUE.same("finish(1, 0), no leader", x.finish(1, 0), -3);
        x.halt();
        x.resume();
        DUE.same("finish(1, 0), unknown comes before no leader", x.finish(1, 0), 0);
    }

    private static void voteKnown() {
        DUE.part("promise 8");
        CommitGroups x = adding(keys(0, 1), keys(0));
        DUE.same("vote(1, 0), not asked", x.vote(1, 0), 0);
        x.prepare(1, 0, true);
        x.prepare(2, 0, true);
        x.prepare(1, 1, false);
        DUE.same("vote(1, 0)", x.vote(1, 0), 1);
        DUE.same("vote(2, 0)", x.vote(2, 0), 2);
        DUE.same("vote(1, 1), did not come back", x.vote(1, 1), 0);
        DUE.same("vote(1, 2), not touched", x.vote(1, 2), 0);
        for (int wrong : new int[] {-1, 3, 4, 60, Integer.MIN_VALUE, Integer.MAX_VALUE}) {
            DUE.same("vote(1, " + wrong + ")", x.vote(1, wrong), 0);
            DUE.same("vote(" + wrong + ", 0)", x.vote(wrong, 0), 0);
        }
        DUE.same("vote(0, 3)", x.vote(0, 3), 0);
        x.prepare(1, 0, false);
        DUE.same("vote(1, 0) stays known", x.vote(1, 0), 1);
        x.halt();
        DUE.same("vote(1, 0), down", x.vote(1, 0), 0);
        x.resume();
        DUE.same("vote(1, 0), forgotten", x.vote(1, 0), 0);
    }

    private static void outcomeKnown() {
        DUE.part("promise 9");
        CommitGroups x = adding(keys(0), keys(1));
        DUE.same("outcome(1)", x.outcome(1), 0);
        x.prepare(1, 0, true);
        x.decide(1, false);
        DUE.same("outcome(1), did not come back", x.outcome(1), 0);
        x.decide(1, true);
        x.timeout(2, true);
        DUE.same("outcome(1)", x.outcome(1), 1);
        DUE.same("outcome(2)", x.outcome(2), 2);
        for (int wrong : new int[] {0, -1, 3, 20, 21, Integer.MIN_VALUE, Integer.MAX_VALUE}) {
            DUE.same("outcome(" + wrong + ")", x.outcome(wrong), 0);
        }
        x.halt();
        DUE.same("outcome(1), down", x.outcome(1), 0);
        x.resume();
        DUE.same("outcome(1), forgotten", x.outcome(1), 0);
    }

    private static void resultKnown() {
        DUE.part("promise 10");
        CommitGroups x = new CommitGroups();
        x.open();
        x.touch(1, 2, 0, Integer.MAX_VALUE);
        x.touch(1, 2, 0, 1);
        x.touch(1, 1, 1, -4);
        x.touch(1, 0, 1, 0);
        x.prepare(1, 0, true);
        x.prepare(1, 1, true);
        DUE.same("result(1, 0), undecided", x.result(1, 0), CommitGroups.NONE);
        x.decide(1, true);
        DUE.same("result(1, 0)", x.result(1, 0), 2147483647L);
        DUE.same("result(1, 1), it wraps", x.result(1, 1), -2147483648L);
        DUE.same("result(1, 2), PUT", x.result(1, 2), 0);
        DUE.same("result(1, 3), READ after PUT", x.result(1, 3), -4);
        for (int wrong : new int[] {-1, 4, Integer.MIN_VALUE, Integer.MAX_VALUE}) {
            DUE.same("result(1, " + wrong + ")", x.result(1, wrong), CommitGroups.NONE);
        }
        for (int wrong : new int[] {0, -1, 2, 21, Integer.MIN_VALUE, Integer.MAX_VALUE}) {
            DUE.same("result(" + wrong + ", 0)", x.result(wrong, 0), CommitGroups.NONE);
        }
        x.finish(1, 0);
        x.finish(1, 1);
        x.open();
        x.touch(2, 1, 0, 9);
        x.prepare(2, 0, true);
        x.timeout(2, true);
        DUE.same("result(2, 0), aborted", x.result(2, 0), CommitGroups.NONE);
        DUE.same("result(1, 1) is the noted one still", x.result(1, 1), -2147483648L);
        x.halt();
        DUE.same("result(1, 0), down", x.result(1, 0), CommitGroups.NONE);
        x.resume();
        DUE.same("result(1, 0), forgotten", x.result(1, 0), CommitGroups.NONE);
        DUE.same("timeout(1, true)", x.timeout(1, true), 1);
        DUE.same("result(1, 0), without the vote", x.result(1, 0), CommitGroups.NONE);
        x.prepare(1, 1, true);
        DUE.same("result(1, 3), with the vote again", x.result(1, 3), -4);
        DUE.same("result(1, 0), vote of the other shard", x.result(1, 0), CommitGroups.NONE);
    }

    private static void resultAfterOthers() {
        DUE.part("promise 10, on values that others left");
        CommitGroups x = adding(keys(0, 3), keys(3, 0), keys(0));
        for (int t = 1; t <= 3; t++) {
            x.prepare(t, 0, true);
            DUE.same(t + " decided", t == 2 ? x.timeout(t, true) : x.decide(t, true), t == 2 ? 2 : 1);
            x.finish(t, 0);
        }
        DUE.same("result(1, 0)", x.result(1, 0), 1);
        DUE.same("result(1, 1)", x.result(1, 1), 1);
        DUE.same("result(3, 0), 2 was only tried", x.result(3, 0), 2);
        for (int i = 1; i < 4; i++) {
            DUE.same("result(3, " + i + "), one operation only", x.result(3, i), CommitGroups.NONE);
        }
    }

    private static void haltForgets() {
        DUE.part("promise 14");
        CommitGroups x = adding(keys(0), keys(1));
        x.prepare(1, 0, true);
        x.timeout(2, true);
        DUE.yes("halt()", x.halt());
        DUE.no("halt() again", x.halt());
        DUE.same("vote(1, 0)", x.vote(1, 0), 0);
        DUE.same("outcome(2)", x.outcome(2), 0);
        DUE.same("prepare(2, 1, true)", x.prepare(2, 1, true), -2);
        DUE.same("decide(2, true)", x.decide(2, true), -2);
        DUE.same("timeout(2, true)", x.timeout(2, true), -2);
        DUE.same("finish(2, 1)", x.finish(2, 1), -2);
        DUE.same("the shard remembers: holds(0, 0)", x.holds(0, 0), 1);
        DUE.same("leader(0)", x.leader(0), 0);
        DUE.yes("crash(0, 0)", x.crash(0, 0));
        DUE.same("elect(0)", x.elect(0), 1);
    }

    private static void resumeKnowsNothing() {
        DUE.part("promise 15");
        CommitGroups x = adding(keys(0), keys(1));
        DUE.no("resume(), up", x.resume());
        x.prepare(1, 0, true);
        x.timeout(2, true);
        DUE.no("resume(), up", x.resume());
        DUE.same("vote(1, 0) is not forgotten by this", x.vote(1, 0), 1);
        x.halt();
        DUE.yes("resume()", x.resume());
        DUE.no("resume() again", x.resume());
        DUE.same("vote(1, 0)", x.vote(1, 0), 0);
        DUE.same("outcome(2)", x.outcome(2), 0);
        DUE.same("decide(1, true)", x.decide(1, true), 0);
        DUE.same("prepare(1, 0, true)", x.prepare(1, 0, true), 1);
        DUE.same("decide(1, true)", x.decide(1, true), 1);
        DUE.same("timeout(2, true)", x.timeout(2, true), 2);
        DUE.yes("halt()", x.halt());
    }
}
