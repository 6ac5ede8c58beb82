/** The edges of promises 4 to 10, 14 and 15, sentence by sentence. */
public final class CoordinatorEdgeTest {
    private static final Due DUE = new Due();
    private static final int READ = Steps.READ;
    private static final int PUT = Steps.PUT;
    private static final int ADD = Steps.ADD;

    public static void main(String[] args) {
        prepareRefused();
        prepareInOrder();
        prepareWithoutLeader();
        prepareTakesVote();
        prepareTakesVoteOfLeader();
        prepareFails();
        prepareStaleLeader();
        prepareBack();
        prepareNotBack();
        decideRefused();
        decideKnown();
        decideNo();
        decideAllVotes();
        decideWithoutLeader();
        decideTakesDecision();
        decideTakesDecisionOfLeader();
        decideFails();
        decideBack();
        timeoutRefused();
        timeoutKnown();
        timeoutProposes();
        timeoutAfterCommit();
        finishRefused();
        finishUnknown();
        finishWithoutLeader();
        finishFinished();
        finishFinishedAtLeader();
        finishLogs();
        finishFails();
        voteEdges();
        outcomeEdges();
        resultEdges();
        resultOfEachShard();
        haltEdges();
        resumeEdges();
        DUE.end();
    }

    /** A new object with transaction 1, which adds 1 to keys 0, 1 and 2. */
    private static CommitGroups inAllShards() {
        CommitGroups x = new CommitGroups();
        Steps.transaction(x, ADD, 0, 1, ADD, 1, 1, ADD, 2, 1);
        return x;
    }

    private static void prepareRefused() {
        DUE.sentence("-1 if there is no transaction t or no shard s (0 .. 2) or t does not touch s;");
        CommitGroups x = new CommitGroups();
        Steps.transaction(x, ADD, 0, 1, ADD, 5, 1);
        x.open();
        for (int wrong : Steps.NOWHERE) {
            DUE.same("prepare(" + wrong + ", 0, true)", x.prepare(wrong, 0, true), -1);
            DUE.same("prepare(1, " + wrong + ", true)", x.prepare(1, wrong, true), -1);
        }
        DUE.same("prepare(0, 0, true)", x.prepare(0, 0, true), -1);
        DUE.same("without operations: prepare(2, 0, true)", x.prepare(2, 0, true), -1);
        DUE.same("not opened: prepare(3, 0, true)", x.prepare(3, 0, true), -1);
        DUE.same("group 3 is no shard: prepare(1, 3, true)", x.prepare(1, 3, true), -1);
        DUE.same("not touched: prepare(1, 1, true)", x.prepare(1, 1, true), -1);
        for (int g = 0; g < 4; g++) {
            DUE.same("length(" + g + ", 0)", x.length(g, 0), 0);
        }
        DUE.same("prepare(1, 0, true)", x.prepare(1, 0, true), 1);
        DUE.same("prepare(1, 2, true)", x.prepare(1, 2, true), 1);
    }

    private static void prepareInOrder() {
        DUE.sentence("The coordinator asks shard s for its vote on t. Tested in this order: -1 if there is "
                + "no transaction t or no shard s (0 .. 2) or t does not touch s; -2 if the coordinator is "
                + "down. Then t is closed.");
        CommitGroups x = Steps.with(1, ADD, 0, 1);
        x.halt();
        for (int g = 0; g < 3; g++) {
            Steps.crashAll(x, g);
        }
        DUE.same("no t, down: prepare(2, 0, true)", x.prepare(2, 0, true), -1);
        DUE.same("no s, down: prepare(1, 3, true)", x.prepare(1, 3, true), -1);
        DUE.same("not touched, down: prepare(1, 1, true)", x.prepare(1, 1, true), -1);
        DUE.same("down, no leader: prepare(1, 0, true)", x.prepare(1, 0, true), -2);
        DUE.yes("not closed: touch(1, 2, 0, 1)", x.touch(1, ADD, 0, 1));
        x.resume();
        DUE.same("not touched, no leader: prepare(1, 1, true)", x.prepare(1, 1, true), -1);
        DUE.yes("not closed: touch(1, 2, 0, 1)", x.touch(1, ADD, 0, 1));
        DUE.same("no leader: prepare(1, 0, true)", x.prepare(1, 0, true), -3);
        DUE.no("closed: touch(1, 2, 0, 1)", x.touch(1, ADD, 0, 1));
    }

    private static void prepareWithoutLeader() {
        DUE.sentence("Then t is closed. Without a leader of group s: -3.");
        CommitGroups x = inAllShards();
        x.prepare(1, 0, true);
        for (int g : new int[] {0, 1, 3}) {
            x.crash(g, 0);
        }
        DUE.same("voted before: prepare(1, 0, true)", x.prepare(1, 0, true), -3);
        DUE.same("voted before: prepare(1, 0, false)", x.prepare(1, 0, false), -3);
        DUE.same("prepare(1, 1, true)", x.prepare(1, 1, true), -3);
        DUE.same("prepare(1, 1, false)", x.prepare(1, 1, false), -3);
        DUE.same("what is known stays known: vote(1, 0)", x.vote(1, 0), 1);
        DUE.same("vote(1, 1)", x.vote(1, 1), 0);
        DUE.same("the other groups do not matter: prepare(1, 2, true)", x.prepare(1, 2, true), 1);
    }

    private static void prepareTakesVote() {
        DUE.sentence("If in the leader's state t has voted, that vote is taken;");
        CommitGroups x = Steps.with(3, ADD, 0, 1);
        x.prepare(1, 0, false);
        x.prepare(2, 0, false);
        DUE.same("YES: prepare(1, 0, true)", x.prepare(1, 0, true), 1);
        DUE.same("NO: prepare(2, 0, true)", x.prepare(2, 0, true), 2);
        DUE.same("nothing is logged: length(0, 0)", x.length(0, 0), 2);
        Steps.leaveAlone(x, 0);
        DUE.same("alone: prepare(1, 0, true)", x.prepare(1, 0, true), 1);
        DUE.same("alone: prepare(2, 0, false)", x.prepare(2, 0, false), 3);
        DUE.same("nothing is logged: length(0, 0)", x.length(0, 0), 2);
        Steps.fill(x, 0, 3, 60);
        DUE.same("full: prepare(1, 0, true)", x.prepare(1, 0, true), 1);
        DUE.same("full: prepare(2, 0, true)", x.prepare(2, 0, true), 2);
        DUE.same("full: prepare(1, 0, false)", x.prepare(1, 0, false), 3);
    }

    // Replica 'away' misses what the others execute under their leader; then it leads alone.
    private static void prepareTakesVoteOfLeader() {
        DUE.sentence("If in the leader's state t has voted, that vote is taken;");
        for (int away = 0; away < 3; away++) {
            CommitGroups x = Steps.with(1, ADD, 0, 1);
            missing(x, 0, away);
            DUE.same("prepare(1, 0, true)", x.prepare(1, 0, true), 1);
            DUE.same("the leader has it: prepare(1, 0, true)", x.prepare(1, 0, true), 1);
            DUE.same("length(0, " + x.leader(0) + ")", x.length(0, x.leader(0)), 1);
            alone(x, 0, away);
            DUE.same("leader(0)", x.leader(0), away);
            DUE.same(away + " lacks it: prepare(1, 0, true)", x.prepare(1, 0, true), -5);
            DUE.same("length(0, " + away + ")", x.length(0, away), 1);
        }
    }

    /** The group comes to a view that 'away' leads; then that is down, and the next one is led by another. */
    private static void missing(CommitGroups x, int g, int away) {
        for (int v = 0; v < away; v++) {
            x.elect(g);
        }
        x.crash(g, away);
        x.elect(g);
    }

    private static void alone(CommitGroups x, int g, int up) {
        Steps.crashAll(x, g);
        x.restart(g, up);
    }

    private static void prepareFails() {
        DUE.sentence("otherwise PREPARE t is logged in group s (if that fails, the answer is its -4 or -5),");
        for (int s = 0; s < 3; s++) {
            CommitGroups x = inAllShards();
            Steps.leaveAlone(x, s);
            for (int i = 1; i <= 60; i++) {
                boolean back = i % 2 == 0;
                DUE.same("entry " + i + ": prepare(1, " + s + ", " + back + ")", x.prepare(1, s, back), -5);
            }
            DUE.same("prepare(1, " + s + ", true)", x.prepare(1, s, true), -4);
            DUE.same("prepare(1, " + s + ", false)", x.prepare(1, s, false), -4);
            DUE.same("length(" + s + ", 0)", x.length(s, 0), 60);
            DUE.same("vote(1, " + s + ")", x.vote(1, s), 0);
        }
    }

    private static void prepareStaleLeader() {
        DUE.sentence("and the vote in the leader's state is taken.");
        CommitGroups x = Steps.with(2, ADD, 0, 1);
        x.crash(0, 0);
        x.elect(0);
        x.prepare(1, 0, true);
        x.crash(0, 1);
        x.crash(0, 2);
        x.restart(0, 0);
        DUE.same("0 leads alone again: leader(0)", x.leader(0), 0);
        DUE.same("0 knows of no vote: prepare(1, 0, true)", x.prepare(1, 0, true), -5);
        DUE.same("vote(1, 0) stays", x.vote(1, 0), 1);
        DUE.same("length(0, 0)", x.length(0, 0), 1);
        x.restart(0, 1);
        DUE.same("1 leads: prepare(2, 0, true)", x.prepare(2, 0, true), 2);
        DUE.same("prepare(1, 0, true)", x.prepare(1, 0, true), 1);
        DUE.same("length(0, 0)", x.length(0, 0), 2);
    }

    private static void prepareBack() {
        DUE.sentence("If back is true, the coordinator knows this vote (and the noted results, if it is "
                + "YES), and the answer is 1 for YES, 2 for NO;");
        CommitGroups x = Steps.with(2, ADD, 0, 1);
        DUE.same("prepare(1, 0, true)", x.prepare(1, 0, true), 1);
        DUE.same("vote(1, 0)", x.vote(1, 0), 1);
        DUE.same("prepare(2, 0, true)", x.prepare(2, 0, true), 2);
        DUE.same("vote(2, 0)", x.vote(2, 0), 2);
        x.decide(1, true);
        x.decide(2, true);
        DUE.same("result(1, 0)", x.result(1, 0), 1);
        DUE.same("result(2, 0)", x.result(2, 0), CommitGroups.NONE);
    }

    private static void prepareNotBack() {
        DUE.sentence("if back is false, the vote does not reach it (all else is done): 3.");
        CommitGroups x = Steps.with(2, ADD, 0, 1);
        DUE.same("YES: prepare(1, 0, false)", x.prepare(1, 0, false), 3);
        DUE.same("NO: prepare(2, 0, false)", x.prepare(2, 0, false), 3);
        DUE.same("vote(1, 0)", x.vote(1, 0), 0);
        DUE.same("vote(2, 0)", x.vote(2, 0), 0);
        DUE.same("decide(1, true)", x.decide(1, true), 0);
        DUE.same("decide(2, true)", x.decide(2, true), 0);
        DUE.same("all else: executed(0, 2)", x.executed(0, 2), 2);
        DUE.same("all else: holds(0, 2)", x.holds(0, 2), 1);
        DUE.no("all else: touch(1, 0, 0, 0)", x.touch(1, READ, 0, 0));
        x.prepare(1, 0, true);
        DUE.same("known before: prepare(1, 0, false)", x.prepare(1, 0, false), 3);
        DUE.same("vote(1, 0)", x.vote(1, 0), 1);
    }

    private static void decideRefused() {
        DUE.sentence("The coordinator decides on t. Tested in this order: -1 if there is no transaction t or "
                + "it has no operations (it may be open still); -2 if the coordinator is down.");
        CommitGroups x = Steps.with(1, ADD, 0, 1);
        x.open();
        for (int down = 0; down < 2; down++) {
            for (int wrong : Steps.NOWHERE) {
                DUE.same("decide(" + wrong + ", true)", x.decide(wrong, true), -1);
            }
            DUE.same("decide(0, true)", x.decide(0, true), -1);
            DUE.same("without operations: decide(2, true)", x.decide(2, true), -1);
            DUE.same("not opened: decide(3, true)", x.decide(3, true), -1);
            DUE.same("open: decide(1, true)", x.decide(1, true), down == 0 ? 0 : -2);
            x.halt();
        }
        x.crash(3, 0);
        DUE.same("down, no leader: decide(1, true)", x.decide(1, true), -2);
        DUE.same("length(3, 0)", x.length(3, 0), 0);
    }

    private static void decideKnown() {
        DUE.sentence("If it knows the decision, that is the answer: 1 for COMMIT, 2 for ABORT.");
        CommitGroups x = Steps.with(2, READ, 0, 0);
        x.prepare(1, 0, true);
        DUE.same("decide(1, true)", x.decide(1, true), 1);
        DUE.same("timeout(2, true)", x.timeout(2, true), 2);
        x.prepare(2, 0, true);
        for (int r = 2; r >= -1; r--) {
            DUE.same("decide(1, true)", x.decide(1, true), 1);
            DUE.same("decide(1, false)", x.decide(1, false), 1);
            DUE.same("decide(2, true), though all voted YES", x.decide(2, true), 2);
            DUE.same("decide(2, false)", x.decide(2, false), 2);
            x.crash(3, r);
        }
        DUE.same("length(3, 0)", x.length(3, 0), 2);
    }

    private static void decideNo() {
        DUE.sentence("Otherwise, if it knows a vote NO of t, it PROPOSES ABORT;");
        for (int s = 0; s < 3; s++) {
            for (int others = 0; others < 2; others++) {
                CommitGroups x = inAllShards();
                Steps.transaction(x, READ, s, 0);
                x.prepare(2, s, true);
                for (int asked = 0; asked < 3; asked++) {
                    if (asked == s || others == 1) {
                        DUE.same("prepare(1, " + asked + ", true)", x.prepare(1, asked, true), asked == s ? 2 : 1);
                    }
                }
                DUE.same("NO of " + s + ": decide(1, true)", x.decide(1, true), 2);
                DUE.same("outcome(1)", x.outcome(1), 2);
                DUE.same("of another transaction: outcome(2)", x.outcome(2), 0);
                DUE.same("decide(2, true)", x.decide(2, true), 1);
            }
        }
    }

    private static void decideAllVotes() {
        DUE.sentence("otherwise, if it knows votes of all shards that t touches (all YES then), it proposes "
                + "COMMIT; otherwise the answer is 0.");
        for (int last = 0; last < 3; last++) {
            CommitGroups x = inAllShards();
            DUE.same("no vote: decide(1, true)", x.decide(1, true), 0);
            for (int s = 0; s < 3; s++) {
                x.prepare(1, s, s != last);
                DUE.same("without " + last + ": decide(1, true)", x.decide(1, true), 0);
            }
            x.crash(3, 0);
            DUE.same("no leader: decide(1, true)", x.decide(1, true), 0);
            x.restart(3, 0);
            DUE.same("nothing is logged: length(3, 0)", x.length(3, 0), 0);
            x.prepare(1, last, true);
            DUE.same("all: decide(1, true)", x.decide(1, true), 1);
            DUE.same("length(3, 0)", x.length(3, 0), 1);
        }
    }

    private static void decideWithoutLeader() {
        DUE.sentence("To PROPOSE: without a leader of group 3: -3.");
        CommitGroups x = Steps.with(2, ADD, 0, 1);
        x.prepare(1, 0, true);
        x.prepare(2, 0, true);
        DUE.same("decide(1, false)", x.decide(1, false), 3);
        for (int r = 0; r < 3; r++) {
            x.crash(3, r);
            DUE.same("decided before: decide(1, true)", x.decide(1, true), -3);
            DUE.same("ABORT: decide(2, true)", x.decide(2, true), -3);
            DUE.same("ABORT: decide(2, false)", x.decide(2, false), -3);
        }
        DUE.same("outcome(1)", x.outcome(1), 0);
        DUE.same("length(3, 1)", x.length(3, 1), 1);
    }

    private static void decideTakesDecision() {
        DUE.sentence("If in the leader's state there is a decision for t, that is taken;");
        CommitGroups x = Steps.with(3, READ, 0, 0);
        for (int t = 1; t <= 3; t++) {
            x.prepare(t, 0, true);
        }
        x.decide(1, false);
        x.timeout(2, false);
        Steps.leaveAlone(x, 3);
        DUE.same("alone: decide(2, false)", x.decide(2, false), 3);
        DUE.same("nothing is logged: length(3, 0)", x.length(3, 0), 2);
        for (int i = 2; i < 60; i++) {
            x.decide(3, true);
        }
        DUE.same("full: decide(1, false)", x.decide(1, false), 3);
        DUE.same("full: decide(1, true)", x.decide(1, true), 1);
        DUE.same("though all voted YES: decide(2, true)", x.decide(2, true), 2);
        DUE.same("decide(3, true)", x.decide(3, true), -4);
    }

    private static void decideTakesDecisionOfLeader() {
        DUE.sentence("If in the leader's state there is a decision for t, that is taken;");
        for (int away = 0; away < 3; away++) {
            CommitGroups x = Steps.with(2, READ, 0, 0);
            x.prepare(1, 0, true);
            missing(x, 3, away);
            DUE.same("decide(1, false)", x.decide(1, false), 3);
            DUE.same("the leader has it: decide(1, false)", x.decide(1, false), 3);
            DUE.same("timeout(2, false)", x.timeout(2, false), 3);
            DUE.same("the leader has it: timeout(2, false)", x.timeout(2, false), 3);
            DUE.same("length(3, " + x.leader(3) + ")", x.length(3, x.leader(3)), 2);
            alone(x, 3, away);
            DUE.same(away + " lacks it: decide(1, true)", x.decide(1, true), -5);
            DUE.same(away + " lacks it: timeout(2, true)", x.timeout(2, true), -5);
            DUE.same("length(3, " + away + ")", x.length(3, away), 2);
        }
    }

    private static void decideFails() {
        DUE.sentence("otherwise COMMIT t or ABORT t is logged in group 3 (if that fails, the answer is its "
                + "-4 or -5), and the decision in the leader's state is taken.");
        CommitGroups x = Steps.with(2, ADD, 0, 1);
        x.prepare(1, 0, true);
        x.prepare(2, 0, true);
        Steps.leaveAlone(x, 3);
        for (int i = 1; i <= 60; i++) {
            int t = i == 1 ? 1 : 2;
            DUE.same("entry " + i + ": decide(" + t + ", false)", x.decide(t, i % 2 == 0), -5);
        }
        for (int t = 1; t <= 2; t++) {
            DUE.same("decide(" + t + ", true)", x.decide(t, true), -4);
            DUE.same("decide(" + t + ", false)", x.decide(t, false), -4);
            DUE.same("outcome(" + t + ")", x.outcome(t), 0);
        }
        x.restart(3, 1);
        x.elect(3);
        DUE.same("COMMIT 1: timeout(1, true)", x.timeout(1, true), 1);
        DUE.same("ABORT 2: decide(2, true)", x.decide(2, true), 2);
    }

    private static void decideBack() {
        DUE.sentence("If back is true, the coordinator knows that decision, and the answer is 1 or 2 "
                + "accordingly; if back is false: 3.");
        CommitGroups x = Steps.with(2, ADD, 0, 1);
        x.prepare(1, 0, true);
        x.prepare(2, 0, true);
        for (int t = 1; t <= 2; t++) {
            DUE.same("decide(" + t + ", false)", x.decide(t, false), 3);
            DUE.same("again: decide(" + t + ", false)", x.decide(t, false), 3);
            DUE.same("outcome(" + t + ")", x.outcome(t), 0);
            DUE.same("finish(" + t + ", 0)", x.finish(t, 0), 0);
            DUE.same("length(3, 2)", x.length(3, 2), t);
            DUE.same("decide(" + t + ", true)", x.decide(t, true), t);
            DUE.same("outcome(" + t + ")", x.outcome(t), t);
            DUE.same("length(3, 2)", x.length(3, 2), t);
        }
    }

    private static void timeoutRefused() {
        DUE.sentence("-1 (also without operations) and -2 as for decide().");
        CommitGroups x = Steps.with(1, ADD, 0, 1);
        x.open();
        for (int down = 0; down < 2; down++) {
            for (int wrong : Steps.NOWHERE) {
                DUE.same("timeout(" + wrong + ", true)", x.timeout(wrong, true), -1);
            }
            DUE.same("timeout(0, true)", x.timeout(0, true), -1);
            DUE.same("without operations: timeout(2, true)", x.timeout(2, true), -1);
            DUE.same("not opened: timeout(3, true)", x.timeout(3, true), -1);
            x.halt();
        }
        DUE.same("timeout(1, true)", x.timeout(1, true), -2);
        x.crash(3, 0);
        DUE.same("no leader: timeout(1, true)", x.timeout(1, true), -2);
        DUE.same("length(3, 0)", x.length(3, 0), 0);
        DUE.yes("not closed: touch(1, 0, 0, 0)", x.touch(1, READ, 0, 0));
        DUE.yes("not closed: touch(2, 0, 0, 0)", x.touch(2, READ, 0, 0));
    }

    private static void timeoutKnown() {
        DUE.sentence("Then t is closed. If the coordinator knows the decision, that is the answer (1 or 2);");
        CommitGroups x = Steps.with(2, READ, 0, 0);
        x.prepare(1, 0, true);
        x.decide(1, true);
        DUE.same("timeout(2, true)", x.timeout(2, true), 2);
        Steps.leaveAlone(x, 3);
        DUE.same("alone: timeout(1, true)", x.timeout(1, true), 1);
        DUE.same("alone: timeout(2, false)", x.timeout(2, false), 2);
        x.crash(3, 0);
        DUE.same("no leader: timeout(1, false)", x.timeout(1, false), 1);
        DUE.same("no leader: timeout(2, true)", x.timeout(2, true), 2);
        DUE.same("length(3, 0)", x.length(3, 0), 2);
    }

    private static void timeoutProposes() {
        DUE.sentence("otherwise it proposes ABORT, with the answers said there");
        CommitGroups x = Steps.with(3, READ, 0, 0);
        x.prepare(1, 0, true);
        DUE.same("though all voted YES: timeout(1, false)", x.timeout(1, false), 3);
        DUE.same("outcome(1)", x.outcome(1), 0);
        DUE.same("length(3, 0)", x.length(3, 0), 1);
        DUE.same("timeout(1, true)", x.timeout(1, true), 2);
        DUE.same("outcome(1)", x.outcome(1), 2);
        DUE.same("length(3, 0)", x.length(3, 0), 1);
        Steps.leaveAlone(x, 3);
        for (int i = 1; i < 60; i++) {
            DUE.same("timeout(2, " + (i % 2 == 0) + ")", x.timeout(2, i % 2 == 0), -5);
        }
        DUE.same("timeout(2, true)", x.timeout(2, true), -4);
        DUE.same("timeout(3, false)", x.timeout(3, false), -4);
        x.crash(3, 0);
        DUE.same("timeout(2, true)", x.timeout(2, true), -3);
        DUE.same("timeout(3, false)", x.timeout(3, false), -3);
    }

    private static void timeoutAfterCommit() {
        DUE.sentence("(a COMMIT that was executed before stays the decision).");
        CommitGroups x = Steps.with(2, READ, 0, 0);
        x.prepare(1, 0, true);
        x.prepare(2, 0, true);
        x.decide(1, false);
        DUE.same("timeout(1, false)", x.timeout(1, false), 3);
        DUE.same("timeout(1, true)", x.timeout(1, true), 1);
        DUE.same("outcome(1)", x.outcome(1), 1);
        DUE.same("length(3, 0)", x.length(3, 0), 1);
        x.decide(2, true);
        x.halt();
        x.resume();
        DUE.same("forgotten, not undone: timeout(2, true)", x.timeout(2, true), 1);
    }

    private static void finishRefused() {
        DUE.sentence("The coordinator tells shard s the decision on t. -1 and -2 as for prepare();");
        CommitGroups x = new CommitGroups();
        Steps.transaction(x, ADD, 0, 1, ADD, 5, 1);
        x.open();
        x.timeout(1, true);
        for (int down = 0; down < 2; down++) {
            for (int wrong : Steps.NOWHERE) {
                DUE.same("finish(" + wrong + ", 0)", x.finish(wrong, 0), -1);
                DUE.same("finish(1, " + wrong + ")", x.finish(1, wrong), -1);
            }
            DUE.same("finish(0, 0)", x.finish(0, 0), -1);
            DUE.same("without operations: finish(2, 0)", x.finish(2, 0), -1);
            DUE.same("not opened: finish(3, 0)", x.finish(3, 0), -1);
            DUE.same("group 3 is no shard: finish(1, 3)", x.finish(1, 3), -1);
            DUE.same("not touched: finish(1, 1)", x.finish(1, 1), -1);
            x.halt();
        }
        DUE.same("down: finish(1, 0)", x.finish(1, 0), -2);
        Steps.crashAll(x, 0);
        DUE.same("down, no leader: finish(1, 0)", x.finish(1, 0), -2);
        DUE.same("length(0, 0)", x.length(0, 0), 0);
    }

    private static void finishUnknown() {
        DUE.sentence("0 if it does not know the decision.");
        CommitGroups x = Steps.with(1, ADD, 0, 1);
        DUE.same("open: finish(1, 0)", x.finish(1, 0), 0);
        x.prepare(1, 0, true);
        DUE.same("voted: finish(1, 0)", x.finish(1, 0), 0);
        x.decide(1, false);
        DUE.same("decided, not told: finish(1, 0)", x.finish(1, 0), 0);
        DUE.same("length(0, 0)", x.length(0, 0), 1);
        Steps.crashAll(x, 0);
        DUE.same("no leader: finish(1, 0)", x.finish(1, 0), 0);
        Steps.restartAll(x, 0);
        x.decide(1, true);
        DUE.same("finish(1, 0)", x.finish(1, 0), 1);
        x.halt();
        x.resume();
        DUE.same("finished, but forgotten: finish(1, 0)", x.finish(1, 0), 0);
    }

    private static void finishWithoutLeader() {
        DUE.sentence("0 if it does not know the decision. Without a leader of group s: -3.");
        CommitGroups x = inAllShards();
        x.timeout(1, true);
        x.finish(1, 0);
        for (int g : new int[] {0, 1, 3}) {
            x.crash(g, 0);
        }
        DUE.same("finished before: finish(1, 0)", x.finish(1, 0), -3);
        DUE.same("finish(1, 1)", x.finish(1, 1), -3);
        DUE.same("the other groups do not matter: finish(1, 2)", x.finish(1, 2), 1);
        DUE.same("length(1, 0)", x.length(1, 0), 0);
    }

    private static void finishFinished() {
        DUE.sentence("If in the leader's state t is finished: 1, and nothing is logged;");
        CommitGroups x = Steps.with(3, ADD, 0, 1);
        Steps.commit(x, 1, 0);
        x.timeout(2, true);
        x.finish(2, 0);
        for (int t = 1; t <= 2; t++) {
            DUE.same("finish(" + t + ", 0)", x.finish(t, 0), 1);
        }
        DUE.same("length(0, 0)", x.length(0, 0), 3);
        Steps.leaveAlone(x, 0);
        DUE.same("alone: finish(1, 0)", x.finish(1, 0), 1);
        DUE.same("length(0, 0)", x.length(0, 0), 3);
        Steps.fill(x, 0, 3, 60);
        DUE.same("full: finish(1, 0)", x.finish(1, 0), 1);
        DUE.same("full: finish(2, 0)", x.finish(2, 0), 1);
        DUE.same("value(0, 0)", x.value(0, 0), 1);
    }

    private static void finishFinishedAtLeader() {
        DUE.sentence("If in the leader's state t is finished: 1, and nothing is logged;");
        for (int away = 0; away < 3; away++) {
            CommitGroups x = Steps.with(1, ADD, 0, 1);
            x.timeout(1, true);
            missing(x, 0, away);
            DUE.same("finish(1, 0)", x.finish(1, 0), 1);
            DUE.same("the leader has it: finish(1, 0)", x.finish(1, 0), 1);
            DUE.same("length(0, " + x.leader(0) + ")", x.length(0, x.leader(0)), 1);
            alone(x, 0, away);
            DUE.same(away + " lacks it: finish(1, 0)", x.finish(1, 0), -5);
            DUE.same("length(0, " + away + ")", x.length(0, away), 1);
        }
    }

    private static void finishLogs() {
        DUE.sentence("otherwise the decision, COMMIT t or ABORT t, is logged in group s: 1;");
        CommitGroups x = Steps.with(2, ADD, 0, 1);
        x.prepare(1, 0, true);
        x.decide(1, true);
        x.timeout(2, true);
        DUE.same("COMMIT: finish(1, 0)", x.finish(1, 0), 1);
        DUE.same("value(0, 1)", x.value(0, 1), 1);
        DUE.same("ABORT: finish(2, 0)", x.finish(2, 0), 1);
        DUE.same("value(0, 1)", x.value(0, 1), 1);
        for (int r = 0; r < 3; r++) {
            DUE.same("length(0, " + r + ")", x.length(0, r), 3);
            DUE.same("executed(0, " + r + ")", x.executed(0, r), 3);
        }
    }

    private static void finishFails() {
        DUE.sentence("if that fails, its -4 or -5.");
        for (int s = 0; s < 3; s++) {
            CommitGroups x = inAllShards();
            x.timeout(1, true);
            Steps.leaveAlone(x, s);
            for (int i = 1; i <= 60; i++) {
                DUE.same("entry " + i + ": finish(1, " + s + ")", x.finish(1, s), -5);
            }
            DUE.same("finish(1, " + s + ")", x.finish(1, s), -4);
            x.restart(s, 2);
            DUE.same("two up: finish(1, " + s + ")", x.finish(1, s), -4);
            DUE.same("executed(" + s + ", 0)", x.executed(s, 0), 0);
            x.elect(s);
            DUE.same("executed by the new view: finish(1, " + s + ")", x.finish(1, s), 1);
        }
    }

    private static void voteEdges() {
        DUE.sentence("The vote of t in shard s that the coordinator knows: 1 YES, 2 NO; 0 if it knows none, "
                + "is down, or there is no such transaction or shard.");
        CommitGroups x = Steps.with(20, PUT, 2, 1);
        for (int t = 1; t <= 20; t++) {
            x.prepare(t, 2, true);
            DUE.same("vote(" + t + ", 2)", x.vote(t, 2), t == 1 ? 1 : 2);
            DUE.same("not touched: vote(" + t + ", 0)", x.vote(t, 0), 0);
            DUE.same("no shard: vote(" + t + ", -1)", x.vote(t, -1), 0);
            DUE.same("no shard: vote(" + t + ", 3)", x.vote(t, 3), 0);
        }
        for (int wrong : Steps.NOWHERE) {
            DUE.same("vote(" + wrong + ", 2)", x.vote(wrong, 2), 0);
            DUE.same("vote(1, " + wrong + ")", x.vote(1, wrong), 0);
        }
        DUE.same("vote(0, 2)", x.vote(0, 2), 0);
        DUE.same("a neighbour's: vote(0, 5)", x.vote(0, 5), 0);
        x.halt();
        DUE.same("down: vote(1, 2)", x.vote(1, 2), 0);
        DUE.same("down: vote(20, 2)", x.vote(20, 2), 0);
    }

    private static void outcomeEdges() {
        DUE.sentence("The decision on t that the coordinator knows: 1 COMMIT, 2 ABORT; 0 if it knows none, "
                + "is down, or there is no transaction t.");
        CommitGroups x = Steps.with(19, READ, 2, 1);
        for (int t = 1; t <= 19; t += 2) {
            DUE.same("outcome(" + t + ")", x.outcome(t), 0);
            x.prepare(t, 2, true);
            x.decide(t, true);
            DUE.same("outcome(" + t + ")", x.outcome(t), 1);
            DUE.same("outcome(" + (t + 1) + ")", x.outcome(t + 1), 0);
            x.timeout(t + 1, true);
            DUE.same("outcome(" + (t + 1) + ")", x.outcome(t + 1), t == 19 ? 0 : 2);
        }
        for (int wrong : Steps.NOWHERE) {
            DUE.same("outcome(" + wrong + ")", x.outcome(wrong), 0);
        }
        DUE.same("outcome(0)", x.outcome(0), 0);
        x.halt();
        DUE.same("down: outcome(1)", x.outcome(1), 0);
        DUE.same("down: outcome(2)", x.outcome(2), 0);
    }

    private static void resultEdges() {
        DUE.sentence("otherwise (also where there is no such operation) NONE.");
        CommitGroups x = new CommitGroups();
        Steps.transaction(x, ADD, 0, 3, ADD, 3, 4);
        Steps.transaction(x, ADD, 6, 5);
        DUE.same("open: result(1, 0)", x.result(1, 0), CommitGroups.NONE);
        x.prepare(1, 0, true);
        DUE.same("undecided: result(1, 0)", x.result(1, 0), CommitGroups.NONE);
        x.decide(1, false);
        DUE.same("decided, not told: result(1, 0)", x.result(1, 0), CommitGroups.NONE);
        x.decide(1, true);
        DUE.same("result(1, 0)", x.result(1, 0), 3);
        DUE.same("result(1, 1)", x.result(1, 1), 4);
        for (int wrong : Steps.NOWHERE) {
            DUE.same("result(1, " + wrong + ")", x.result(1, wrong), CommitGroups.NONE);
            DUE.same("result(" + wrong + ", 0)", x.result(wrong, 0), CommitGroups.NONE);
        }
        DUE.same("it has two operations: result(1, 2)", x.result(1, 2), CommitGroups.NONE);
        DUE.same("result(0, 0)", x.result(0, 0), CommitGroups.NONE);
        DUE.same("a neighbour's: result(0, 4)", x.result(0, 4), CommitGroups.NONE);
        DUE.same("a neighbour's: result(2, -4)", x.result(2, -4), CommitGroups.NONE);
        x.prepare(2, 0, true);
        x.timeout(2, true);
        DUE.same("aborted: result(2, 0)", x.result(2, 0), CommitGroups.NONE);
    }

    private static void resultOfEachShard() {
        DUE.sentence("The result of operation i of t, if the coordinator (up) knows now the decision COMMIT "
                + "on t and the vote YES of the shard of that operation's key;");
        CommitGroups x = inAllShards();
        Steps.commit(x, 1, 0, 1, 2);
        x.halt();
        for (int i = 0; i < 3; i++) {
            DUE.same("down: result(1, " + i + ")", x.result(1, i), CommitGroups.NONE);
        }
        x.resume();
        for (int s = 2; s >= 0; s--) {
            DUE.same("vote without decision: prepare(1, " + s + ", true)", s == 2 ? x.prepare(1, s, true) : 1, 1);
            DUE.same("result(1, " + s + ")", x.result(1, s), CommitGroups.NONE);
        }
        DUE.same("timeout(1, true)", x.timeout(1, true), 1);
        for (int s = 2; s >= 0; s--) {
            x.prepare(1, s, false);
            DUE.same("not back: result(1, " + s + ")", x.result(1, s), s == 2 ? 1 : CommitGroups.NONE);
            x.prepare(1, s, true);
            for (int i = 0; i < 3; i++) {
                long due = i >= s ? 1 : CommitGroups.NONE;
                DUE.same("votes of " + s + " .. 2: result(1, " + i + ")", x.result(1, i), due);
            }
        }
    }

    private static void haltEdges() {
        DUE.sentence("The coordinator goes down: true; false if it is down.");
        CommitGroups x = Steps.with(2, ADD, 0, 1);
        DUE.yes("halt()", x.halt());
        DUE.no("halt()", x.halt());
        DUE.no("halt()", x.halt());
        DUE.same("prepare(1, 0, true)", x.prepare(1, 0, true), -2);
        DUE.same("decide(1, true)", x.decide(1, true), -2);
        DUE.same("timeout(1, true)", x.timeout(1, true), -2);
        DUE.same("finish(1, 0)", x.finish(1, 0), -2);
        DUE.yes("resume()", x.resume());
        DUE.yes("halt()", x.halt());
        DUE.yes("resume()", x.resume());
        DUE.same("prepare(1, 0, true)", x.prepare(1, 0, true), 1);
    }

    private static void resumeEdges() {
        DUE.sentence("The coordinator is up again and knows nothing: true; false if it is up.");
        CommitGroups x = Steps.with(1, ADD, 0, 1);
        DUE.no("at first: resume()", x.resume());
        x.prepare(1, 0, true);
        x.decide(1, true);
        DUE.no("resume()", x.resume());
        DUE.same("this forgets nothing: outcome(1)", x.outcome(1), 1);
        DUE.same("this forgets nothing: vote(1, 0)", x.vote(1, 0), 1);
        DUE.same("this forgets nothing: result(1, 0)", x.result(1, 0), 1);
        x.halt();
        DUE.yes("resume()", x.resume());
        DUE.no("resume()", x.resume());
        DUE.same("outcome(1)", x.outcome(1), 0);
        DUE.same("vote(1, 0)", x.vote(1, 0), 0);
        DUE.same("result(1, 0)", x.result(1, 0), CommitGroups.NONE);
        DUE.same("decide(1, true)", x.decide(1, true), 0);
        DUE.same("finish(1, 0)", x.finish(1, 0), 0);
    }
}
