/** The edges of 'the leader', 'to log' and 'to execute' in the document's 'Terms'. */
public final class LogEdgeTest {
    private static final Due DUE = new Due();
    private static final int READ = Steps.READ;
    private static final int PUT = Steps.PUT;
    private static final int ADD = Steps.ADD;

    public static void main(String[] args) {
        leaderOfGreatestView();
        leaderOfOneUpToDate();
        leaderWrapsAround();
        leaderIsNone();
        logWithoutLeader();
        logFull();
        logFullWithOthers();
        logLastEntry();
        logExchangesOthers();
        logExecutesWithTwo();
        logExecutesWithThree();
        logAlone();
        logAloneExecutedLater();
        logAloneLost();
        prepareOfVoted();
        prepareOfFinished();
        prepareVotesNo();
        prepareVotesYes();
        prepareAfterTrying();
        commitOnce();
        commitInItsShard();
        commitLeavesOthers();
        abortOnce();
        abortUnvoted();
        abortVoted();
        decisionStays();
        DUE.end();
    }

    private static void leaderOfGreatestView() {
        DUE.sentence("let v be the greatest view of its replicas that are up;");
        CommitGroups x = new CommitGroups();
        x.crash(0, 0);
        x.elect(0);
        x.elect(0);
        DUE.same("leader(0) of view 2", x.leader(0), 2);
        x.restart(0, 0);
        DUE.same("leader(0), 0 is back with view 0", x.leader(0), 2);
        x.crash(0, 1);
        x.crash(0, 2);
        DUE.same("leader(0), 0 alone with view 0", x.leader(0), 0);
        x.restart(0, 1);
        DUE.same("leader(0), 1 knows of view 2", x.leader(0), -1);
    }

    // Of the replicas that are up only 'knowing' has taken part in the last view.
    private static void leaderOfOneUpToDate() {
        DUE.sentence("let v be the greatest view of its replicas that are up;");
        for (int knowing = 0; knowing < 3; knowing++) {
            for (int away = 0; away < 3; away++) {
                for (int views = 1; views <= 4 && away != knowing; views++) {
                    CommitGroups x = new CommitGroups();
                    int third = 3 - knowing - away;
                    int v = 0;
                    x.crash(2, away);
                    for (int i = 0; i < views; i++) {
                        v = x.elect(2);
                    }
                    x.crash(2, third);
                    String up = "view " + v + ", " + knowing + " up: ";
                    DUE.same(up + "leader(2)", x.leader(2), v % 3 == knowing ? knowing : -1);
                    x.restart(2, away);
                    DUE.same(up + "leader(2), with " + away, x.leader(2), v % 3 == knowing ? knowing : -1);
                    int next = (v + 1) % 3 == third ? v + 2 : v + 1;
                    DUE.same(up + "elect(2), with " + away, x.elect(2), next);
                    DUE.same(up + "leader(2), then", x.leader(2), next % 3);
                }
            }
        }
    }

    private static void leaderWrapsAround() {
        DUE.sentence("the leader is replica v % 3, if that is up (its view is v then).");
        for (int g = 0; g < 4; g++) {
            CommitGroups x = new CommitGroups();
            for (int v = 0; v <= 9; v++) {
                DUE.same("view " + v + ": leader(" + g + ")", x.leader(g), v % 3);
                DUE.same("view(" + g + ", " + v % 3 + ")", x.view(g, v % 3), v);
                x.crash(g, v % 3);
                DUE.same("view " + v + ", down: leader(" + g + ")", x.leader(g), -1);
                x.restart(g, v % 3);
                x.crash(g, (v + 1) % 3);
                x.crash(g, (v + 2) % 3);
                DUE.same("view " + v + ", alone: leader(" + g + ")", x.leader(g), v % 3);
                Steps.restartAll(x, g);
                x.elect(g);
            }
        }
    }

    private static void leaderIsNone() {
        DUE.sentence("Otherwise, and if none is up, there is no leader.");
        for (int g = 0; g < 4; g++) {
            CommitGroups x = new CommitGroups();
            x.crash(g, 0);
            DUE.same("0 is down: leader(" + g + ")", x.leader(g), -1);
            x.crash(g, 1);
            DUE.same("0 and 1 are down: leader(" + g + ")", x.leader(g), -1);
            x.crash(g, 2);
            DUE.same("none is up: leader(" + g + ")", x.leader(g), -1);
            for (int other = 0; other < 4; other++) {
                DUE.same("leader(" + other + ")", x.leader(other), other == g ? -1 : 0);
            }
        }
    }

    private static void logWithoutLeader() {
        DUE.sentence("without a leader it fails with -3;");
        for (int down = 1; down <= 3; down++) {
            CommitGroups x = Steps.with(3, READ, 0, 0);
            x.prepare(1, 0, true);
            x.timeout(2, true);
            for (int r = 0; r < down; r++) {
                x.crash(0, r);
                x.crash(3, r);
            }
            String crashed = down + " down: ";
            DUE.same(crashed + "prepare(3, 0, true)", x.prepare(3, 0, true), -3);
            DUE.same(crashed + "finish(2, 0)", x.finish(2, 0), -3);
            DUE.same(crashed + "decide(1, true)", x.decide(1, true), -3);
            DUE.same(crashed + "timeout(3, true)", x.timeout(3, true), -3);
            for (int r = 0; r < 3; r++) {
                DUE.same(crashed + "length(0, " + r + ")", x.length(0, r), 1);
                DUE.same(crashed + "executed(0, " + r + ")", x.executed(0, r), 1);
                DUE.same(crashed + "length(3, " + r + ")", x.length(3, r), 1);
                DUE.same(crashed + "executed(3, " + r + ")", x.executed(3, r), 1);
            }
        }
    }

    private static void logFull() {
        DUE.sentence("if the leader's log has 60 entries, with -4 (in both cases nothing is logged).");
        CommitGroups x = Steps.with(4, READ, 0, 0);
        x.timeout(1, true);
        x.prepare(4, 0, true);
        Steps.leaveAlone(x, 0);
        Steps.leaveAlone(x, 3);
        Steps.fill(x, 0, 2, 59);
        DUE.same("the 60th: prepare(2, 0, true)", x.prepare(2, 0, true), -5);
        DUE.same("length(0, 0)", x.length(0, 0), 60);
        DUE.same("the 61st: prepare(2, 0, true)", x.prepare(2, 0, true), -4);
        DUE.same("the 61st: prepare(3, 0, false)", x.prepare(3, 0, false), -4);
        DUE.same("the 61st: finish(1, 0)", x.finish(1, 0), -4);
        DUE.same("length(0, 0)", x.length(0, 0), 60);
        DUE.same("executed(0, 0)", x.executed(0, 0), 1);
        for (int i = 2; i <= 60; i++) {
            DUE.same("entry " + i + ": timeout(3, true)", x.timeout(3, true), -5);
        }
        DUE.same("the 61st: timeout(3, true)", x.timeout(3, true), -4);
        DUE.same("the 61st: decide(4, true)", x.decide(4, true), -4);
        DUE.same("length(3, 0)", x.length(3, 0), 60);
        DUE.same("executed(3, 0)", x.executed(3, 0), 1);
        DUE.same("outcome(3)", x.outcome(3), 0);
    }

    private static void logFullWithOthers() {
        DUE.sentence("if the leader's log has 60 entries, with -4 (in both cases nothing is logged).");
        CommitGroups x = Steps.with(3, READ, 0, 0);
        x.timeout(1, true);
        Steps.leaveAlone(x, 0);
        Steps.fill(x, 0, 2, 60);
        Steps.restartAll(x, 0);
        DUE.same("three up: prepare(3, 0, true)", x.prepare(3, 0, true), -4);
        DUE.same("three up: prepare(2, 0, true)", x.prepare(2, 0, true), -4);
        DUE.same("three up: finish(1, 0)", x.finish(1, 0), -4);
        for (int r = 0; r < 3; r++) {
            DUE.same("nothing is exchanged: length(0, " + r + ")", x.length(0, r), r == 0 ? 60 : 0);
            DUE.same("nothing is executed: executed(0, " + r + ")", x.executed(0, r), 0);
        }
    }

    private static void logLastEntry() {
        DUE.sentence("Otherwise the entry is put at the end of the leader's log;");
        CommitGroups x = Steps.with(3, ADD, 0, 1);
        Steps.leaveAlone(x, 0);
        Steps.fill(x, 0, 1, 59);
        x.restart(0, 1);
        DUE.same("the 60th, two up: prepare(2, 0, true)", x.prepare(2, 0, true), 2);
        for (int r = 0; r < 2; r++) {
            DUE.same("length(0, " + r + ")", x.length(0, r), 60);
            DUE.same("executed(0, " + r + ")", x.executed(0, r), 60);
            DUE.same("entry 1 before entry 60: holds(0, " + r + ")", x.holds(0, r), 1);
        }
        DUE.same("the 61st, two up: prepare(3, 0, true)", x.prepare(3, 0, true), -4);
        DUE.same("length(0, 1)", x.length(0, 1), 60);
    }

    private static void logExchangesOthers() {
        DUE.sentence("the view and the log of each other replica that is up become those of the leader;");
        CommitGroups x = Steps.with(9, READ, 0, 0);
        Steps.leaveAlone(x, 0);
        Steps.fill(x, 0, 1, 5);
        x.crash(0, 0);
        x.restart(0, 1);
        x.restart(0, 2);
        x.elect(0);
        DUE.same("prepare(6, 0, true)", x.prepare(6, 0, true), 1);
        x.crash(0, 2);
        x.restart(0, 0);
        DUE.same("a longer log: length(0, 0)", x.length(0, 0), 5);
        DUE.same("prepare(7, 0, true)", x.prepare(7, 0, true), 1);
        DUE.same("the leader's log: length(0, 0)", x.length(0, 0), 2);
        DUE.same("executed(0, 0)", x.executed(0, 0), 2);
        DUE.same("the leader's view: view(0, 0)", x.view(0, 0), 1);
        DUE.same("its entries: holds(0, 0)", x.holds(0, 0), -2);
        DUE.same("down: length(0, 2)", x.length(0, 2), 1);
        x.restart(0, 2);
        DUE.same("prepare(1, 0, true), which was lost", x.prepare(1, 0, true), 1);
        for (int r = 0; r < 3; r++) {
            DUE.same("length(0, " + r + ")", x.length(0, r), 3);
            DUE.same("holds(0, " + r + ")", x.holds(0, r), -3);
        }
    }

    private static void logExecutesWithTwo() {
        DUE.sentence("if two or three are up, those that are up then execute all entries of the log that "
                + "they have not executed.");
        for (int down = 1; down <= 2; down++) {
            CommitGroups x = Steps.with(3, READ, 0, 0);
            x.prepare(1, 0, true);
            x.crash(0, down);
            DUE.same("two up: prepare(2, 0, true)", x.prepare(2, 0, true), 1);
            for (int r = 0; r < 3; r++) {
                DUE.same(down + " is down: executed(0, " + r + ")", x.executed(0, r), r == down ? 1 : 2);
                DUE.same(down + " is down: holds(0, " + r + ")", x.holds(0, r), r == down ? -1 : -2);
            }
        }
    }

    private static void logExecutesWithThree() {
        DUE.sentence("if two or three are up, those that are up then execute all entries of the log that "
                + "they have not executed.");
        CommitGroups x = Steps.with(5, READ, 0, 0);
        x.prepare(1, 0, true);
        x.crash(0, 2);
        x.prepare(2, 0, true);
        x.crash(0, 1);
        x.prepare(3, 0, true);
        x.prepare(4, 0, true);
        Steps.restartAll(x, 0);
        for (int r = 0; r < 3; r++) {
            DUE.same("before: executed(0, " + r + ")", x.executed(0, r), r == 2 ? 1 : 2);
        }
        DUE.same("three up: prepare(5, 0, true)", x.prepare(5, 0, true), 1);
        for (int r = 0; r < 3; r++) {
            DUE.same("after: executed(0, " + r + ")", x.executed(0, r), 5);
            DUE.same("each entry once: holds(0, " + r + ")", x.holds(0, r), -5);
        }
    }

    private static void logAlone() {
        DUE.sentence("If the leader alone is up, the entry lies in its log, nothing is executed, and it "
                + "fails with -5.");
        for (int leading = 0; leading < 3; leading++) {
            CommitGroups x = Steps.with(3, READ, 0, 0);
            x.prepare(1, 0, true);
            x.timeout(2, true);
            for (int v = 0; v < leading; v++) {
                x.elect(0);
                x.elect(3);
            }
            for (int r = 0; r < 3; r++) {
                if (r != leading) {
                    x.crash(0, r);
                    x.crash(3, r);
                }
            }
            DUE.same("prepare(3, 0, true)", x.prepare(3, 0, true), -5);
            DUE.same("finish(2, 0)", x.finish(2, 0), -5);
            DUE.same("decide(1, true)", x.decide(1, true), -5);
            DUE.same("timeout(3, true)", x.timeout(3, true), -5);
            for (int r = 0; r < 3; r++) {
                for (int g = 0; g <= 3; g += 3) {
                    String replica = "(" + g + ", " + r + ")";
                    DUE.same("length" + replica, x.length(g, r), r == leading ? 3 : 1);
                    DUE.same("executed" + replica, x.executed(g, r), 1);
                    DUE.same("view" + replica, x.view(g, r), leading);
                }
            }
            DUE.same("holds(0, " + leading + ")", x.holds(0, leading), -1);
            DUE.same("vote(3, 0)", x.vote(3, 0), 0);
            DUE.same("outcome(1)", x.outcome(1), 0);
        }
    }

    private static void logAloneExecutedLater() {
        DUE.sentence("(Such an entry may be executed later, when others have it,");
        CommitGroups x = Steps.with(2, ADD, 0, 1);
        Steps.leaveAlone(x, 0);
        DUE.same("prepare(1, 0, true)", x.prepare(1, 0, true), -5);
        x.restart(0, 2);
        DUE.same("prepare(2, 0, true), behind 1", x.prepare(2, 0, true), 2);
        DUE.same("executed(0, 2)", x.executed(0, 2), 2);
        DUE.same("holds(0, 2)", x.holds(0, 2), 1);
        DUE.same("prepare(1, 0, true)", x.prepare(1, 0, true), 1);
        DUE.same("length(0, 0)", x.length(0, 0), 2);
    }

    private static void logAloneLost() {
        DUE.sentence("or be lost when the leader's log is exchanged for another one.)");
        CommitGroups x = Steps.with(2, ADD, 0, 1);
        Steps.leaveAlone(x, 0);
        DUE.same("prepare(1, 0, true)", x.prepare(1, 0, true), -5);
        x.crash(0, 0);
        x.restart(0, 1);
        x.restart(0, 2);
        DUE.same("elect(0)", x.elect(0), 1);
        x.restart(0, 0);
        DUE.same("not yet: length(0, 0)", x.length(0, 0), 1);
        DUE.same("prepare(2, 0, true)", x.prepare(2, 0, true), 1);
        DUE.same("length(0, 0)", x.length(0, 0), 1);
        DUE.same("holds(0, 0)", x.holds(0, 0), 2);
        DUE.same("prepare(1, 0, true)", x.prepare(1, 0, true), 2);
        DUE.same("length(0, 0)", x.length(0, 0), 2);
    }

    private static void prepareOfVoted() {
        DUE.sentence("PREPARE t: if t voted or is finished there, nothing.");
        CommitGroups x = Steps.with(3, ADD, 0, 1);
        x.prepare(1, 0, true);
        x.decide(1, true);
        Steps.leaveAlone(x, 0);
        x.prepare(2, 0, true);
        x.finish(1, 0);
        x.prepare(2, 0, true);
        x.prepare(3, 0, true);
        x.prepare(3, 0, true);
        x.restart(0, 1);
        DUE.same("elect(0)", x.elect(0), 1);
        DUE.same("executed(0, 1)", x.executed(0, 1), 6);
        DUE.same("2 voted NO before 1 was finished: prepare(2, 0, true)", x.prepare(2, 0, true), 2);
        DUE.same("3 came after that: prepare(3, 0, true)", x.prepare(3, 0, true), 1);
        DUE.same("holds(0, 1)", x.holds(0, 1), 3);
        DUE.same("length(0, 1)", x.length(0, 1), 6);
        x.decide(3, true);
        DUE.same("result(3, 0)", x.result(3, 0), 2);
    }

    private static void prepareOfFinished() {
        DUE.sentence("PREPARE t: if t voted or is finished there, nothing.");
        CommitGroups x = Steps.with(2, ADD, 0, 1);
        x.timeout(1, true);
        Steps.leaveAlone(x, 0);
        DUE.same("ABORT 1: finish(1, 0)", x.finish(1, 0), -5);
        DUE.same("PREPARE 1: prepare(1, 0, true)", x.prepare(1, 0, true), -5);
        x.restart(0, 2);
        DUE.same("PREPARE 2: prepare(2, 0, true)", x.prepare(2, 0, true), 1);
        DUE.same("executed(0, 2)", x.executed(0, 2), 3);
        DUE.same("holds(0, 2)", x.holds(0, 2), 2);
        DUE.same("prepare(1, 0, true)", x.prepare(1, 0, true), 2);
    }

    private static void prepareVotesNo() {
        DUE.sentence("Otherwise, if some other transaction holds a key that t needs alone there, or holds "
                + "alone a key that t needs shared there, t voted NO.");
        CommitGroups x = new CommitGroups();
        Steps.transaction(x, ADD, 0, 1, READ, 3, 0, ADD, 1, 1);
        int[][] hindered = {
            {READ, 0, 0}, {PUT, 0, 1}, {ADD, 3, 1}, {READ, 9, 0, READ, 6, 0, READ, 0, 0},
            {READ, 3, 0, READ, 9, 0, PUT, 3, 1}, {PUT, 9, 1, PUT, 6, 1, PUT, 3, 1},
        };
        DUE.same("prepare(1, 0, true)", x.prepare(1, 0, true), 1);
        for (int[] operations : hindered) {
            int t = Steps.transaction(x, operations);
            DUE.same("prepare(" + t + ", 0, true)", x.prepare(t, 0, true), 2);
            DUE.same("holds(0, 0)", x.holds(0, 0), 1);
            DUE.same("holds(3, 0)", x.holds(3, 0), -1);
            DUE.same("of a NO nothing: holds(6, 0)", x.holds(6, 0), 0);
            DUE.same("of a NO nothing: holds(9, 0)", x.holds(9, 0), 0);
        }
        Steps.transaction(x, ADD, 1, 1, READ, 3, 0);
        DUE.same("both shared, key 1 lies elsewhere: prepare(8, 0, true)", x.prepare(8, 0, true), 1);
        DUE.same("key 1 is held by none yet: prepare(8, 1, true)", x.prepare(8, 1, true), 1);
        DUE.same("prepare(1, 1, true)", x.prepare(1, 1, true), 2);
    }

    private static void prepareVotesYes() {
        DUE.sentence("Otherwise t voted YES: it holds its keys there as it needs them, and its operations "
                + "there are tried: their results are noted as if they were done now, one after the other, "
                + "but the values stay.");
        CommitGroups x = new CommitGroups();
        Steps.transaction(x, PUT, 0, 40);
        Steps.commit(x, 1, 0);
        Steps.transaction(x, ADD, 0, 2, PUT, 3, 9, READ, 0, 0, ADD, 1, 6);
        DUE.same("prepare(2, 0, true)", x.prepare(2, 0, true), 1);
        for (int r = 0; r < 3; r++) {
            DUE.same("value(0, " + r + ")", x.value(0, r), 40);
            DUE.same("value(3, " + r + ")", x.value(3, r), 0);
            DUE.same("holds(0, " + r + ")", x.holds(0, r), 2);
            DUE.same("holds(3, " + r + ")", x.holds(3, r), 2);
            DUE.same("of another shard: holds(1, " + r + ")", x.holds(1, r), 0);
        }
        x.prepare(2, 1, true);
        x.decide(2, true);
        long[] due = {42, 0, 42, 6};
        for (int i = 0; i < 4; i++) {
            DUE.same("result(2, " + i + ")", x.result(2, i), due[i]);
        }
        DUE.same("value(0, 0)", x.value(0, 0), 40);
    }

    private static void prepareAfterTrying() {
        DUE.sentence("their results are noted as if they were done now, one after the other, but the values "
                + "stay.");
        CommitGroups x = new CommitGroups();
        Steps.transaction(x, PUT, 0, 40, ADD, 3, 50);
        Steps.transaction(x, ADD, 0, 2, READ, 3, 0);
        x.prepare(1, 0, true);
        x.timeout(1, true);
        x.finish(1, 0);
        Steps.commit(x, 2, 0);
        DUE.same("1 was only tried: result(2, 0)", x.result(2, 0), 2);
        DUE.same("1 was only tried: result(2, 1)", x.result(2, 1), 0);
        DUE.same("value(0, 2)", x.value(0, 2), 2);
    }

    private static void commitOnce() {
        DUE.sentence("COMMIT t: if t is finished there, nothing.");
        CommitGroups x = Steps.with(2, ADD, 0, 5);
        x.prepare(1, 0, true);
        x.decide(1, true);
        Steps.leaveAlone(x, 0);
        for (int i = 0; i < 3; i++) {
            DUE.same("COMMIT 1: finish(1, 0)", x.finish(1, 0), -5);
        }
        x.prepare(2, 0, true);
        x.finish(1, 0);
        Steps.restartAll(x, 0);
        DUE.same("elect(0)", x.elect(0), 1);
        for (int r = 0; r < 3; r++) {
            DUE.same("executed(0, " + r + ")", x.executed(0, r), 6);
            DUE.same("done once: value(0, " + r + ")", x.value(0, r), 5);
            DUE.same("2 keeps it: holds(0, " + r + ")", x.holds(0, r), 2);
        }
    }

    private static void commitInItsShard() {
        DUE.sentence("Otherwise its operations on keys of the shard are done, it holds nothing there any "
                + "more, and it is finished.");
        CommitGroups x = new CommitGroups();
        Steps.transaction(x, ADD, 0, 5, PUT, 3, 6, READ, 6, 0, ADD, 1, 7);
        x.prepare(1, 0, true);
        x.prepare(1, 1, true);
        x.decide(1, true);
        DUE.same("finish(1, 0)", x.finish(1, 0), 1);
        int[] values = {5, 0, 0, 6, 0, 0, 0};
        for (int key = 0; key < values.length; key++) {
            DUE.same("value(" + key + ", 2)", x.value(key, 2), values[key]);
            DUE.same("holds(" + key + ", 2)", x.holds(key, 2), key == 1 ? 1 : 0);
        }
        DUE.same("finished: finish(1, 0)", x.finish(1, 0), 1);
        DUE.same("length(0, 0)", x.length(0, 0), 2);
        DUE.same("finish(1, 1)", x.finish(1, 1), 1);
        DUE.same("value(1, 2)", x.value(1, 2), 7);
        DUE.same("holds(1, 2)", x.holds(1, 2), 0);
    }

    private static void commitLeavesOthers() {
        DUE.sentence("it holds nothing there any more, and it is finished.");
        for (int ends = 1; ends <= 2; ends++) {
            CommitGroups x = new CommitGroups();
            Steps.transaction(x, ADD, 0, 5, READ, 3, 0);
            Steps.transaction(x, ADD, 6, 5, READ, 3, 0);
            Steps.transaction(x, ADD, 9, 5);
            for (int t = 1; t <= 3; t++) {
                x.prepare(t, 0, true);
            }
            DUE.same("decide or timeout", ends == 1 ? x.decide(1, true) : x.timeout(1, true), ends);
            x.finish(1, 0);
            int[] due = {0, -1, 2, 3};
            for (int i = 0; i < 4; i++) {
                DUE.same("decision " + ends + ": holds(" + 3 * i + ", 0)", x.holds(3 * i, 0), due[i]);
            }
        }
    }

    private static void abortOnce() {
        DUE.sentence("ABORT t: if t is finished there, nothing.");
        CommitGroups x = Steps.with(2, ADD, 0, 5);
        x.prepare(1, 0, true);
        x.timeout(1, true);
        Steps.leaveAlone(x, 0);
        x.finish(1, 0);
        x.prepare(2, 0, true);
        DUE.same("ABORT 1 again: finish(1, 0)", x.finish(1, 0), -5);
        x.restart(0, 1);
        DUE.same("elect(0)", x.elect(0), 1);
        DUE.same("executed(0, 1)", x.executed(0, 1), 4);
        DUE.same("holds(0, 1)", x.holds(0, 1), 2);
        DUE.same("value(0, 1)", x.value(0, 1), 0);
        DUE.same("voted before: prepare(1, 0, true)", x.prepare(1, 0, true), 1);
    }

    private static void abortUnvoted() {
        DUE.sentence("Otherwise, if it has not voted, it voted NO; it holds nothing there any more, and it "
                + "is finished.");
        CommitGroups x = new CommitGroups();
        Steps.transaction(x, ADD, 0, 5, ADD, 1, 5);
        x.timeout(1, true);
        DUE.same("finish(1, 0)", x.finish(1, 0), 1);
        DUE.same("prepare(1, 0, true)", x.prepare(1, 0, true), 2);
        DUE.same("vote(1, 0)", x.vote(1, 0), 2);
        DUE.same("finished: finish(1, 0)", x.finish(1, 0), 1);
        DUE.same("length(0, 0)", x.length(0, 0), 1);
        DUE.same("holds(0, 0)", x.holds(0, 0), 0);
        DUE.same("value(0, 0)", x.value(0, 0), 0);
        DUE.same("the other shard is free to vote: prepare(1, 1, true)", x.prepare(1, 1, true), 1);
        DUE.same("holds(1, 0)", x.holds(1, 0), 1);
    }

    private static void abortVoted() {
        DUE.sentence("Otherwise, if it has not voted, it voted NO; it holds nothing there any more, and it "
                + "is finished.");
        CommitGroups x = new CommitGroups();
        Steps.transaction(x, ADD, 0, 5, READ, 3, 0, PUT, 6, 7);
        Steps.transaction(x, READ, 3, 0);
        x.prepare(1, 0, true);
        x.prepare(2, 0, true);
        x.timeout(1, true);
        DUE.same("finish(1, 0)", x.finish(1, 0), 1);
        for (int r = 0; r < 3; r++) {
            DUE.same("holds(0, " + r + ")", x.holds(0, r), 0);
            DUE.same("2 holds it still: holds(3, " + r + ")", x.holds(3, r), -1);
            DUE.same("holds(6, " + r + ")", x.holds(6, r), 0);
            DUE.same("value(0, " + r + ")", x.value(0, r), 0);
            DUE.same("value(6, " + r + ")", x.value(6, r), 0);
        }
        x.halt();
        x.resume();
        DUE.same("it had voted YES: prepare(1, 0, true)", x.prepare(1, 0, true), 1);
    }

    private static void decisionStays() {
        DUE.sentence("COMMIT t or ABORT t: if there is no decision for t yet, that is its decision.");
        CommitGroups x = Steps.with(2, READ, 0, 0);
        x.prepare(1, 0, true);
        x.prepare(2, 0, true);
        Steps.leaveAlone(x, 3);
        DUE.same("ABORT 1: timeout(1, true)", x.timeout(1, true), -5);
        DUE.same("COMMIT 1: decide(1, true)", x.decide(1, true), -5);
        DUE.same("COMMIT 2: decide(2, true)", x.decide(2, true), -5);
        x.restart(3, 2);
        DUE.same("ABORT 2, behind COMMIT 2: timeout(2, true)", x.timeout(2, true), 1);
        DUE.same("outcome(2)", x.outcome(2), 1);
        DUE.same("the first of the two: decide(1, true)", x.decide(1, true), 2);
        DUE.same("length(3, 2)", x.length(3, 2), 4);
        DUE.same("executed(3, 2)", x.executed(3, 2), 4);
    }
}
