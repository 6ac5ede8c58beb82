/** Promises 11 to 13 and 16 to 19: replicas go down and come back, views, logs and their execution. */
public final class GroupTest {
    private static final Due DUE = new Due();
    private static final int[] WRONG_GROUPS = {-1, 4, 5, Integer.MIN_VALUE, Integer.MAX_VALUE};
    private static final int[] WRONG_REPLICAS = {-1, 3, 4, Integer.MIN_VALUE, Integer.MAX_VALUE};

    public static void main(String[] args) {
        crashes();
        restarts();
        electRefusals();
        electNumbers();
        electTakesGreatestView();
        electTakesLongest();
        electInGroupOfDecisions();
        leaders();
        views();
        lengths();
        executions();
        DUE.end();
    }

    /** A new object with transactions 1 .. n, of which each reads key 0 (so that all vote YES). */
    private static CommitGroups readers(int n) {
        CommitGroups x = new CommitGroups();
        for (int t = 1; t <= n; t++) {
            x.open();
            x.touch(t, 0, 0, 0);
        }
        return x;
    }

    private static void crashes() {
        DUE.part("promise 11");
        CommitGroups x = readers(1);
        x.prepare(1, 0, true);
        for (int g = 0; g < 4; g++) {
            for (int r = 0; r < 3; r++) {
                DUE.yes("crash(" + g + ", " + r + ")", x.crash(g, r));
                DUE.no("crash(" + g + ", " + r + ") again", x.crash(g, r));
            }
        }
        DUE.same("what is down keeps its log: length(0, 1)", x.length(0, 1), 1);
        DUE.same("executed(0, 1)", x.executed(0, 1), 1);
        DUE.same("holds(0, 1)", x.holds(0, 1), -1);
        for (int wrong : WRONG_GROUPS) {
            DUE.no("crash(" + wrong + ", 0)", x.crash(wrong, 0));
        }
        x = new CommitGroups();
        for (int wrong : WRONG_REPLICAS) {
            DUE.no("crash(0, " + wrong + ")", x.crash(0, wrong));
        }
        DUE.same("leader(0)", x.leader(0), 0);
    }

    private static void restarts() {
        DUE.part("promise 12");
        CommitGroups x = readers(3);
        x.prepare(1, 0, true);
        x.crash(0, 0);
        x.elect(0);
        x.prepare(2, 0, true);
        DUE.yes("restart(0, 0)", x.restart(0, 0));
        DUE.no("restart(0, 0) again", x.restart(0, 0));
        DUE.same("view(0, 0) as it was", x.view(0, 0), 0);
        DUE.same("length(0, 0) as it was", x.length(0, 0), 1);
        DUE.same("executed(0, 0) as it was", x.executed(0, 0), 1);
        DUE.same("holds(0, 0) as it was", x.holds(0, 0), -1);
        DUE.same("prepare(3, 0, true)", x.prepare(3, 0, true), 1);
        DUE.same("view(0, 0)", x.view(0, 0), 1);
        DUE.same("length(0, 0)", x.length(0, 0), 3);
        DUE.same("executed(0, 0)", x.executed(0, 0), 3);
        DUE.same("holds(0, 0)", x.holds(0, 0), -3);
        for (int wrong : WRONG_GROUPS) {
            DUE.no("restart(" + wrong + ", 0)", x.restart(wrong, 0));
        }
        for (int wrong : WRONG_REPLICAS) {
            DUE.no("restart(0, " + wrong + ")", x.restart(0, wrong));
        }
        x.crash(0, 0);
        x.crash(0, 1);
        x.crash(0, 2);
        x.restart(0, 0);
        DUE.same("leader(0), 0 has kept view 1, whose leader is down", x.leader(0), -1);
    }

    private static void electRefusals() {
        DUE.part("promise 13, wrong inputs");
        CommitGroups x = new CommitGroups();
        for (int wrong : WRONG_GROUPS) {
            DUE.same("elect(" + wrong + ")", x.elect(wrong), -1);
        }
        x.crash(2, 0);
        x.crash(2, 1);
        DUE.same("elect(2), one up", x.elect(2), -1);
        x.crash(2, 2);
        DUE.same("elect(2), none up", x.elect(2), -1);
        DUE.same("view(2, 2)", x.view(2, 2), 0);
    }

    private static void electNumbers() {
        DUE.part("promise 13, numbers");
        CommitGroups x = new CommitGroups();
        DUE.same("elect(1), with a leader", x.elect(1), 1);
        DUE.same("elect(1)", x.elect(1), 2);
        DUE.same("elect(1)", x.elect(1), 3);
        x.crash(1, 1);
        DUE.same("elect(1), 4 would be replica 1", x.elect(1), 5);
        x.crash(1, 2);
        x.restart(1, 1);
        DUE.same("leader(1), 5 is down", x.leader(1), -1);
        DUE.same("elect(1)", x.elect(1), 6);
        DUE.same("elect(1)", x.elect(1), 7);
        DUE.same("elect(1), 8 would be replica 2", x.elect(1), 9);
        x.restart(1, 2);
        DUE.same("view(1, 2)", x.view(1, 2), 5);
        DUE.same("elect(1)", x.elect(1), 10);
        DUE.same("view(1, 2)", x.view(1, 2), 10);
        DUE.same("view(0, 0), another group", x.view(0, 0), 0);
    }

    private static void electTakesGreatestView() {
        DUE.part("promise 13, the greatest view");
        CommitGroups x = readers(9);
        x.crash(0, 1);
        x.crash(0, 2);
        for (int t = 1; t <= 5; t++) {
            DUE.same("prepare(" + t + ", 0, true), alone", x.prepare(t, 0, true), -5);
        }
        x.crash(0, 0);
        x.restart(0, 1);
        x.restart(0, 2);
        DUE.same("elect(0)", x.elect(0), 1);
        DUE.same("prepare(6, 0, true)", x.prepare(6, 0, true), 1);
        x.crash(0, 1);
        x.restart(0, 0);
        DUE.same("length(0, 0), longer but older", x.length(0, 0), 5);
        DUE.same("elect(0)", x.elect(0), 2);
        DUE.same("length(0, 0)", x.length(0, 0), 1);
        DUE.same("executed(0, 0)", x.executed(0, 0), 1);
        DUE.same("view(0, 0)", x.view(0, 0), 2);
        DUE.same("holds(0, 0)", x.holds(0, 0), -1);
        DUE.same("prepare(1, 0, true), was lost", x.prepare(1, 0, true), 1);
        DUE.same("length(0, 0)", x.length(0, 0), 2);
    }

    private static void electTakesLongest() {
        DUE.part("promise 13, the longest of one view");
        CommitGroups x = readers(4);
        x.elect(0);
        x.elect(0);
        x.crash(0, 0);
        x.crash(0, 1);
        DUE.same("prepare(1, 0, true), 2 alone", x.prepare(1, 0, true), -5);
        DUE.same("prepare(2, 0, true), 2 alone", x.prepare(2, 0, true), -5);
        x.restart(0, 0);
        DUE.same("length(0, 0)", x.length(0, 0), 0);
        DUE.same("elect(0)", x.elect(0), 3);
        DUE.same("length(0, 0)", x.length(0, 0), 2);
        DUE.same("executed(0, 0)", x.executed(0, 0), 2);
        DUE.same("executed(0, 2)", x.executed(0, 2), 2);
        DUE.same("holds(0, 0)", x.holds(0, 0), -2);
        DUE.same("executed(0, 1), down", x.executed(0, 1), 0);
        DUE.same("view(0, 1), down", x.view(0, 1), 2);
        DUE.same("vote(1, 0), the coordinator was not told", x.vote(1, 0), 0);
    }

    private static void electInGroupOfDecisions() {
        DUE.part("promise 13, group 3");
        CommitGroups x = readers(1);
        x.prepare(1, 0, true);
        x.crash(3, 1);
        x.crash(3, 2);
        DUE.same("decide(1, true), alone", x.decide(1, true), -5);
        x.restart(3, 1);
        DUE.same("elect(3)", x.elect(3), 1);
        DUE.same("executed(3, 1)", x.executed(3, 1), 1);
        DUE.same("timeout(1, true), COMMIT is executed", x.timeout(1, true), 1);
        DUE.same("length(3, 1)", x.length(3, 1), 1);
    }

    private static void leaders() {
        DUE.part("promise 16");
        CommitGroups x = new CommitGroups();
        for (int wrong : WRONG_GROUPS) {
            DUE.same("leader(" + wrong + ")", x.leader(wrong), -1);
        }
        x.crash(2, 1);
        DUE.same("leader(2)", x.leader(2), 0);
        x.crash(2, 0);
        DUE.same("leader(2), 0 is down", x.leader(2), -1);
        x.restart(2, 0);
        DUE.same("leader(2), 0 is back", x.leader(2), 0);
        x.restart(2, 1);
        x.crash(2, 0);
        x.elect(2);
        DUE.same("leader(2) of view 1", x.leader(2), 1);
        x.crash(2, 1);
        x.crash(2, 2);
        DUE.same("leader(2), none up", x.leader(2), -1);
        x.restart(2, 0);
        DUE.same("leader(2), 0 alone does not know of view 1", x.leader(2), 0);
        x.restart(2, 2);
        DUE.same("leader(2), 2 knows of view 1", x.leader(2), -1);
        x.restart(2, 1);
        DUE.same("leader(2)", x.leader(2), 1);
        DUE.same("leader(1)", x.leader(1), 0);
    }

    private static void views() {
        DUE.part("promise 17");
        CommitGroups x = readers(1);
        x.crash(0, 1);
        x.elect(0);
        DUE.same("view(0, 0)", x.view(0, 0), 2);
        DUE.same("view(0, 1), down", x.view(0, 1), 0);
        DUE.same("view(0, 2)", x.view(0, 2), 2);
        x.restart(0, 1);
        DUE.same("view(0, 1), up", x.view(0, 1), 0);
        x.prepare(1, 0, true);
        DUE.same("view(0, 1), after an entry", x.view(0, 1), 2);
        DUE.same("view(3, 2)", x.view(3, 2), 0);
        for (int wrong : WRONG_GROUPS) {
            DUE.same("view(" + wrong + ", 0)", x.view(wrong, 0), -1);
        }
        for (int wrong : WRONG_REPLICAS) {
            DUE.same("view(0, " + wrong + ")", x.view(0, wrong), -1);
        }
    }

    private static void lengths() {
        DUE.part("promise 18");
        CommitGroups x = readers(3);
        x.prepare(1, 0, true);
        x.crash(0, 2);
        x.prepare(2, 0, true);
        x.crash(0, 1);
        x.prepare(3, 0, true);
        DUE.same("length(0, 0)", x.length(0, 0), 3);
        DUE.same("length(0, 1)", x.length(0, 1), 2);
        DUE.same("length(0, 2)", x.length(0, 2), 1);
        DUE.same("length(1, 0)", x.length(1, 0), 0);
        x.timeout(3, true);
        DUE.same("length(3, 0)", x.length(3, 0), 1);
        for (int wrong : WRONG_GROUPS) {
            DUE.same("length(" + wrong + ", 0)", x.length(wrong, 0), -1);
        }
        for (int wrong : WRONG_REPLICAS) {
            DUE.same("length(0, " + wrong + ")", x.length(0, wrong), -1);
        }
    }

    private static void executions() {
        DUE.part("promise 19");
        CommitGroups x = readers(4);
        x.prepare(1, 0, true);
        x.crash(0, 2);
        x.prepare(2, 0, true);
        x.crash(0, 1);
        x.prepare(3, 0, true);
        DUE.same("executed(0, 0), the third when it was alone", x.executed(0, 0), 2);
        DUE.same("executed(0, 1)", x.executed(0, 1), 2);
        DUE.same("executed(0, 2)", x.executed(0, 2), 1);
        x.restart(0, 2);
        DUE.same("executed(0, 2), back", x.executed(0, 2), 1);
        x.prepare(4, 0, true);
        DUE.same("executed(0, 0)", x.executed(0, 0), 4);
        DUE.same("executed(0, 1), down", x.executed(0, 1), 2);
        DUE.same("executed(0, 2)", x.executed(0, 2), 4);
        for (int wrong : WRONG_GROUPS) {
            DUE.same("executed(" + wrong + ", 0)", x.executed(wrong, 0), -1);
        }
        for (int wrong : WRONG_REPLICAS) {
            DUE.same("executed(0, " + wrong + ")", x.executed(0, wrong), -1);
        }
    }
}
