/** The edges of promises 11 to 13 and 16 to 21, sentence by sentence. */
public final class ReplicaEdgeTest {
    private static final Due DUE = new Due();
    private static final int READ = Steps.READ;
    private static final int PUT = Steps.PUT;
    private static final int ADD = Steps.ADD;

    public static void main(String[] args) {
        crashNowhere();
        crashTwice();
        restartNowhere();
        restartTwice();
        restartExchangesNothing();
        electNowhere();
        electWithTooFew();
        electWithLeaderOrWithout();
        electNextNumber();
        electPassesOverDown();
        electTakesGreatestView();
        electTakesLongest();
        electExecutes();
        electFullLog();
        leaderNowhere();
        viewNowhere();
        lengthNowhere();
        executedNowhere();
        valueNowhere();
        valueUpOrDown();
        holdsAlone();
        holdsShared();
        holdsNowhere();
        DUE.end();
    }

    private static void crashNowhere() {
        DUE.sentence("Replica r of group g goes down: true; false if there is none such (g 0 .. 3, r 0 .. 2) "
                + "or it is down.");
        CommitGroups x = new CommitGroups();
        for (int wrong : Steps.NOWHERE) {
            DUE.no("crash(" + wrong + ", 0)", x.crash(wrong, 0));
            DUE.no("crash(0, " + wrong + ")", x.crash(0, wrong));
        }
        for (int g = -1; g <= 4; g++) {
            for (int r = -1; r <= 3; r++) {
                boolean there = g >= 0 && g <= 3 && r >= 0 && r <= 2;
                if (!there) {
                    DUE.no("crash(" + g + ", " + r + ")", x.crash(g, r));
                }
            }
        }
        for (int g = 0; g < 4; g++) {
            for (int r = 0; r < 3; r++) {
                DUE.no("all are up: restart(" + g + ", " + r + ")", x.restart(g, r));
            }
        }
    }

    private static void crashTwice() {
        DUE.sentence("Replica r of group g goes down: true; false if there is none such (g 0 .. 3, r 0 .. 2) "
                + "or it is down.");
        CommitGroups x = new CommitGroups();
        for (int g = 0; g < 4; g++) {
            for (int r = 0; r < 3; r++) {
                String replica = "(" + g + ", " + r + ")";
                DUE.yes("crash" + replica, x.crash(g, r));
                DUE.no("crash" + replica, x.crash(g, r));
                DUE.no("crash" + replica, x.crash(g, r));
                DUE.yes("restart" + replica, x.restart(g, r));
                DUE.yes("crash" + replica, x.crash(g, r));
            }
            DUE.same("the next group: leader(" + (g + 1) + ")", x.leader(g + 1), g == 3 ? -1 : 0);
        }
    }

    private static void restartNowhere() {
        DUE.sentence("false if there is none such or it is up.");
        CommitGroups x = new CommitGroups();
        for (int g = 0; g < 4; g++) {
            Steps.crashAll(x, g);
        }
        for (int wrong : Steps.NOWHERE) {
            DUE.no("restart(" + wrong + ", 0)", x.restart(wrong, 0));
            DUE.no("restart(0, " + wrong + ")", x.restart(0, wrong));
        }
        for (int g = -1; g <= 4; g++) {
            for (int r = -1; r <= 3; r++) {
                boolean there = g >= 0 && g <= 3 && r >= 0 && r <= 2;
                if (!there) {
                    DUE.no("restart(" + g + ", " + r + ")", x.restart(g, r));
                }
            }
        }
        for (int g = 0; g < 4; g++) {
            for (int r = 0; r < 3; r++) {
                DUE.no("all are down: crash(" + g + ", " + r + ")", x.crash(g, r));
            }
        }
    }

    private static void restartTwice() {
        DUE.sentence("false if there is none such or it is up.");
        CommitGroups x = new CommitGroups();
        for (int g = 0; g < 4; g++) {
            for (int r = 0; r < 3; r++) {
                String replica = "(" + g + ", " + r + ")";
                DUE.no("at first: restart" + replica, x.restart(g, r));
                x.crash(g, r);
                DUE.yes("restart" + replica, x.restart(g, r));
                DUE.no("restart" + replica, x.restart(g, r));
            }
        }
    }

    private static void restartExchangesNothing() {
        DUE.sentence("with view, log and state as they were (nothing is executed or exchanged by this)");
        CommitGroups x = Steps.with(4, READ, 0, 0);
        x.prepare(1, 0, true);
        x.crash(0, 2);
        x.elect(0);
        x.prepare(2, 0, true);
        x.crash(0, 0);
        DUE.same("1 leads alone: prepare(3, 0, true)", x.prepare(3, 0, true), -5);
        x.crash(0, 1);
        Steps.restartAll(x, 0);
        int[][] due = {{1, 2, 2, -2}, {1, 3, 2, -2}, {0, 1, 1, -1}};
        for (int r = 0; r < 3; r++) {
            DUE.same("view(0, " + r + ")", x.view(0, r), due[r][0]);
            DUE.same("length(0, " + r + ")", x.length(0, r), due[r][1]);
            DUE.same("executed(0, " + r + ")", x.executed(0, r), due[r][2]);
            DUE.same("holds(0, " + r + ")", x.holds(0, r), due[r][3]);
        }
        DUE.same("but then: prepare(4, 0, true)", x.prepare(4, 0, true), 1);
        for (int r = 0; r < 3; r++) {
            DUE.same("view(0, " + r + ")", x.view(0, r), 1);
            DUE.same("executed(0, " + r + ")", x.executed(0, r), 4);
            DUE.same("holds(0, " + r + ")", x.holds(0, r), -4);
        }
    }

    private static void electNowhere() {
        DUE.sentence("-1 if there is no group g or fewer than two of its replicas are up.");
        CommitGroups x = new CommitGroups();
        for (int wrong : Steps.NOWHERE) {
            DUE.same("elect(" + wrong + ")", x.elect(wrong), -1);
        }
        DUE.same("elect(4)", x.elect(4), -1);
        for (int g = 0; g < 4; g++) {
            DUE.same("elect(" + g + ")", x.elect(g), 1);
        }
    }

    private static void electWithTooFew() {
        DUE.sentence("-1 if there is no group g or fewer than two of its replicas are up.");
        for (int g = 0; g < 4; g++) {
            for (int up = 0; up < 3; up++) {
                CommitGroups x = new CommitGroups();
                x.crash(g, (up + 1) % 3);
                x.crash(g, (up + 2) % 3);
                DUE.same("only " + up + " up: elect(" + g + ")", x.elect(g), -1);
                DUE.same("view(" + g + ", " + up + ")", x.view(g, up), 0);
                x.crash(g, up);
                DUE.same("none up: elect(" + g + ")", x.elect(g), -1);
                x.restart(g, up);
                x.restart(g, (up + 1) % 3);
                DUE.yes("two up: elect(" + g + ")", x.elect(g) > 0);
            }
        }
    }

    private static void electWithLeaderOrWithout() {
        DUE.sentence("A new view for group g (whether it has a leader or not):");
        for (int g = 0; g < 4; g++) {
            CommitGroups x = new CommitGroups();
            DUE.same("leader(" + g + ")", x.leader(g), 0);
            DUE.same("with a leader: elect(" + g + ")", x.elect(g), 1);
            x.crash(g, 1);
            DUE.same("leader(" + g + ")", x.leader(g), -1);
            DUE.same("without: elect(" + g + ")", x.elect(g), 2);
            DUE.same("leader(" + g + ")", x.leader(g), 2);
            for (int other = 0; other < 4; other++) {
                DUE.same("view(" + other + ", 0)", x.view(other, 0), other == g ? 2 : 0);
            }
        }
    }

    private static void electNextNumber() {
        DUE.sentence("Otherwise the new view is the least number that is greater than the views of all "
                + "replicas that are up,");
        CommitGroups x = new CommitGroups();
        for (int v = 1; v <= 12; v++) {
            DUE.same("three up: elect(1)", x.elect(1), v);
            for (int r = 0; r < 3; r++) {
                DUE.same("view(1, " + r + ")", x.view(1, r), v);
            }
        }
        x.crash(1, 0);
        DUE.same("without 0: elect(1)", x.elect(1), 13);
        x.restart(1, 0);
        DUE.same("0 has view 12, the others 13: elect(1)", x.elect(1), 14);
        DUE.same("view(1, 0)", x.view(1, 0), 14);
    }

    private static void electPassesOverDown() {
        DUE.sentence("and whose remainder by 3 is a replica that is up.");
        int[][] due = {{1, 2, 4, 5, 7, 8}, {2, 3, 5, 6, 8, 9}, {1, 3, 4, 6, 7, 9}};
        for (int down = 0; down < 3; down++) {
            CommitGroups x = new CommitGroups();
            x.crash(2, down);
            for (int v : due[down]) {
                DUE.same(down + " is down: elect(2)", x.elect(2), v);
                DUE.same(down + " is down: leader(2)", x.leader(2), v % 3);
            }
            DUE.same("view(2, " + down + ")", x.view(2, down), 0);
        }
    }

    private static void electTakesGreatestView() {
        DUE.sentence("Of the logs of those that are up the one of the replica with the greatest view is "
                + "taken,");
        CommitGroups x = Steps.with(9, READ, 0, 0);
        Steps.leaveAlone(x, 0);
        Steps.fill(x, 0, 1, 7);
        x.crash(0, 0);
        x.restart(0, 1);
        x.restart(0, 2);
        x.elect(0);
        x.prepare(2, 0, true);
        x.crash(0, 1);
        x.restart(0, 0);
        DUE.same("long, of view 0: length(0, 0)", x.length(0, 0), 7);
        DUE.same("short, of view 1: length(0, 2)", x.length(0, 2), 1);
        DUE.same("elect(0)", x.elect(0), 2);
        for (int r = 0; r < 3; r += 2) {
            DUE.same("length(0, " + r + ")", x.length(0, r), 1);
            DUE.same("executed(0, " + r + ")", x.executed(0, r), 1);
        }
        DUE.same("prepare(2, 0, true)", x.prepare(2, 0, true), 1);
        DUE.same("nothing is logged: length(0, 0)", x.length(0, 0), 1);
    }

    private static void electTakesLongest() {
        DUE.sentence("of several such the longest;");
        for (int leading = 0; leading < 3; leading++) {
            for (int other = 0; other < 3; other++) {
                CommitGroups x = Steps.with(3, READ, 0, 0);
                for (int v = 0; v < leading; v++) {
                    x.elect(0);
                }
                x.prepare(1, 0, true);
                x.crash(0, (leading + 1) % 3);
                x.crash(0, (leading + 2) % 3);
                DUE.same(leading + " alone: prepare(2, 0, true)", x.prepare(2, 0, true), -5);
                DUE.same(leading + " alone: prepare(3, 0, true)", x.prepare(3, 0, true), -5);
                Steps.restartAll(x, 0);
                if (other != leading) {
                    x.crash(0, other);
                }
                x.elect(0);
                for (int r = 0; r < 3; r++) {
                    int length = r == other && r != leading ? 1 : 3;
                    DUE.same("of " + leading + ": length(0, " + r + ")", x.length(0, r), length);
                    DUE.same("of " + leading + ": executed(0, " + r + ")", x.executed(0, r), length);
                    DUE.same("of " + leading + ": holds(0, " + r + ")", x.holds(0, r), -length);
                }
            }
        }
    }

    private static void electExecutes() {
        DUE.sentence("all that are up get the new view and this log and execute all entries of it that they "
                + "have not executed.");
        CommitGroups x = Steps.with(4, ADD, 0, 1);
        Steps.commit(x, 1, 0);
        x.crash(0, 2);
        Steps.commit(x, 2, 0);
        x.prepare(3, 0, true);
        x.decide(3, true);
        x.crash(0, 1);
        DUE.same("0 alone: finish(3, 0)", x.finish(3, 0), -5);
        x.restart(0, 2);
        DUE.same("elect(0)", x.elect(0), 2);
        int[][] due = {{2, 6, 6, 3, 0}, {0, 5, 5, 2, 3}, {2, 6, 6, 3, 0}};
        for (int r = 0; r < 3; r++) {
            DUE.same("view(0, " + r + ")", x.view(0, r), due[r][0]);
            DUE.same("length(0, " + r + ")", x.length(0, r), due[r][1]);
            DUE.same("executed(0, " + r + ")", x.executed(0, r), due[r][2]);
            DUE.same("value(0, " + r + ")", x.value(0, r), due[r][3]);
            DUE.same("holds(0, " + r + ")", x.holds(0, r), due[r][4]);
        }
        x.elect(0);
        DUE.same("once: executed(0, 0)", x.executed(0, 0), 6);
        DUE.same("once: value(0, 0)", x.value(0, 0), 3);
    }

    private static void electFullLog() {
        DUE.sentence("all that are up get the new view and this log and execute all entries of it that they "
                + "have not executed.");
        CommitGroups x = Steps.with(2, ADD, 0, 1);
        Steps.leaveAlone(x, 0);
        Steps.fill(x, 0, 1, 59);
        x.prepare(2, 0, true);
        Steps.restartAll(x, 0);
        DUE.same("elect(0)", x.elect(0), 1);
        for (int r = 0; r < 3; r++) {
            DUE.same("length(0, " + r + ")", x.length(0, r), 60);
            DUE.same("executed(0, " + r + ")", x.executed(0, r), 60);
            DUE.same("holds(0, " + r + ")", x.holds(0, r), 1);
        }
        DUE.same("the last entry too: prepare(2, 0, true)", x.prepare(2, 0, true), 2);
        DUE.same("elect(0)", x.elect(0), 2);
        DUE.same("an empty log: elect(1)", x.elect(1), 1);
        DUE.same("an empty log: length(1, 2)", x.length(1, 2), 0);
        DUE.same("an empty log: executed(1, 2)", x.executed(1, 2), 0);
    }

    private static void leaderNowhere() {
        DUE.sentence("The leader of group g; -1 if there is none or no group g.");
        CommitGroups x = new CommitGroups();
        for (int wrong : Steps.NOWHERE) {
            DUE.same("leader(" + wrong + ")", x.leader(wrong), -1);
        }
        DUE.same("leader(4)", x.leader(4), -1);
        for (int g = 0; g < 4; g++) {
            DUE.same("leader(" + g + ")", x.leader(g), 0);
            x.crash(g, 0);
            DUE.same("leader(" + g + ")", x.leader(g), -1);
            x.elect(g);
            DUE.same("leader(" + g + ")", x.leader(g), 1);
            x.crash(g, 1);
            x.crash(g, 2);
            DUE.same("none up: leader(" + g + ")", x.leader(g), -1);
        }
    }

    private static void viewNowhere() {
        DUE.sentence("The view of replica r of group g; -1 if there is none such.");
        CommitGroups x = new CommitGroups();
        for (int g = 0; g < 4; g++) {
            for (int v = 0; v <= g; v++) {
                x.elect(g);
            }
        }
        for (int g = -1; g <= 4; g++) {
            for (int r = -1; r <= 3; r++) {
                boolean there = g >= 0 && g <= 3 && r >= 0 && r <= 2;
                DUE.same("view(" + g + ", " + r + ")", x.view(g, r), there ? g + 1 : -1);
            }
        }
        for (int wrong : Steps.NOWHERE) {
            DUE.same("view(" + wrong + ", 0)", x.view(wrong, 0), -1);
            DUE.same("view(0, " + wrong + ")", x.view(0, wrong), -1);
        }
        Steps.crashAll(x, 0);
        DUE.same("down: view(0, 0)", x.view(0, 0), 1);
    }

    /** A new object: in shard g, replica 0 has executed 2 * g + 1 entries, the others one more. */
    private static CommitGroups staggered() {
        CommitGroups x = new CommitGroups();
        for (int g = 0; g < 3; g++) {
            x.crash(g, 0);
            x.elect(g);
            x.elect(g);
            x.restart(g, 0);
            for (int i = 0; i < 2 * g + 1; i++) {
                x.prepare(Steps.transaction(x, READ, g, 0), g, true);
            }
            x.crash(g, 0);
            x.prepare(Steps.transaction(x, READ, g, 0), g, true);
            x.crash(g, 1);
            x.restart(g, 0);
        }
        return x;
    }

    private static void lengthNowhere() {
        DUE.sentence("How many entries the log of replica r of group g has; -1 if there is none such.");
        CommitGroups x = staggered();
        for (int g = -1; g <= 4; g++) {
            for (int r = -1; r <= 3; r++) {
                boolean there = g >= 0 && g <= 3 && r >= 0 && r <= 2;
                int entries = g == 3 ? 0 : 2 * g + (r == 0 ? 1 : 2);
                DUE.same("length(" + g + ", " + r + ")", x.length(g, r), there ? entries : -1);
            }
        }
        for (int wrong : Steps.NOWHERE) {
            DUE.same("length(" + wrong + ", 0)", x.length(wrong, 0), -1);
            DUE.same("length(0, " + wrong + ")", x.length(0, wrong), -1);
        }
    }

    private static void executedNowhere() {
        DUE.sentence("EXECUTED of replica r of group g; -1 if there is none such.");
        CommitGroups x = staggered();
        for (int g = 0; g < 3; g++) {
            x.crash(g, 0);
            DUE.same("2 alone", x.prepare(Steps.transaction(x, READ, g, 0), g, true), -5);
            DUE.same("length(" + g + ", 2)", x.length(g, 2), 2 * g + 3);
        }
        for (int g = -1; g <= 4; g++) {
            for (int r = -1; r <= 3; r++) {
                boolean there = g >= 0 && g <= 3 && r >= 0 && r <= 2;
                int entries = g == 3 ? 0 : 2 * g + (r == 0 ? 1 : 2);
                DUE.same("executed(" + g + ", " + r + ")", x.executed(g, r), there ? entries : -1);
            }
        }
        for (int wrong : Steps.NOWHERE) {
            DUE.same("executed(" + wrong + ", 0)", x.executed(wrong, 0), -1);
            DUE.same("executed(0, " + wrong + ")", x.executed(0, wrong), -1);
        }
    }

    /** A new object in which each key's value is its number and 1. */
    private static CommitGroups valued() {
        CommitGroups x = new CommitGroups();
        for (int t = 1; t <= 3; t++) {
            int key = 4 * (t - 1);
            x.open();
            for (int i = 0; i < 4; i++) {
                x.touch(t, PUT, key + i, key + i + 1);
            }
            Steps.commit(x, t, 0, 1, 2);
        }
        return x;
    }

    private static void valueNowhere() {
        DUE.sentence("0 if there is no such key or replica.");
        CommitGroups x = valued();
        for (int key = -3; key <= 14; key++) {
            for (int r = -1; r <= 3; r++) {
                boolean there = key >= 0 && key <= 11 && r >= 0 && r <= 2;
                DUE.same("value(" + key + ", " + r + ")", x.value(key, r), there ? key + 1 : 0);
            }
        }
        for (int wrong : Steps.NOWHERE) {
            DUE.same("value(" + wrong + ", 0)", x.value(wrong, 0), 0);
            DUE.same("value(0, " + wrong + ")", x.value(0, wrong), 0);
        }
    }

    private static void valueUpOrDown() {
        DUE.sentence("The value of a key in the state (what it executed, up or down) of replica r of its "
                + "shard;");
        CommitGroups x = Steps.with(2, ADD, 11, 1);
        Steps.commit(x, 1, 2);
        x.prepare(2, 2, true);
        x.decide(2, true);
        x.crash(2, 2);
        x.finish(2, 2);
        Steps.crashAll(x, 2);
        for (int r = 0; r < 3; r++) {
            DUE.same("down: value(11, " + r + ")", x.value(11, r), r == 2 ? 1 : 2);
        }
        Steps.restartAll(x, 2);
        for (int r = 0; r < 3; r++) {
            DUE.same("up: value(11, " + r + ")", x.value(11, r), r == 2 ? 1 : 2);
        }
        x.elect(2);
        DUE.same("executed: value(11, 2)", x.value(11, 2), 2);
    }

    private static void holdsAlone() {
        DUE.sentence("t if transaction t holds it alone,");
        for (int t = 1; t <= 20; t++) {
            CommitGroups x = Steps.with(t, PUT, 7, 1);
            x.prepare(t, 1, true);
            for (int key = 0; key < 12; key++) {
                DUE.same("holds(" + key + ", 1)", x.holds(key, 1), key == 7 ? t : 0);
            }
            Steps.crashAll(x, 1);
            DUE.same("down: holds(7, 1)", x.holds(7, 1), t);
        }
    }

    private static void holdsShared() {
        DUE.sentence("-n if n transactions hold it shared,");
        CommitGroups x = Steps.with(20, READ, 10, 1);
        for (int n = 1; n <= 20; n++) {
            x.prepare(n, 1, true);
            DUE.same("holds(10, 0)", x.holds(10, 0), -n);
        }
        for (int n = 19; n >= 0; n--) {
            int t = 20 - n;
            DUE.same("timeout or decide", t % 2 == 0 ? x.timeout(t, true) : x.decide(t, true), t % 2 == 0 ? 2 : 1);
            x.finish(t, 1);
            DUE.same("holds(10, 0)", x.holds(10, 0), -n);
            DUE.same("holds(10, 2)", x.holds(10, 2), -n);
        }
    }

    private static void holdsNowhere() {
        DUE.sentence("0 if none holds it or there is no such key or replica.");
        CommitGroups x = new CommitGroups();
        for (int t = 1; t <= 3; t++) {
            int key = 4 * (t - 1);
            Steps.transaction(x, PUT, key, 1, PUT, key + 1, 1, PUT, key + 2, 1, PUT, key + 3, 1);
            for (int s = 0; s < 3; s++) {
                x.prepare(t, s, true);
            }
        }
        for (int key = -3; key <= 14; key++) {
            for (int r = -1; r <= 3; r++) {
                boolean there = key >= 0 && key <= 11 && r >= 0 && r <= 2;
                DUE.same("holds(" + key + ", " + r + ")", x.holds(key, r), there ? key / 4 + 1 : 0);
            }
        }
        for (int wrong : Steps.NOWHERE) {
            DUE.same("holds(" + wrong + ", 0)", x.holds(wrong, 0), 0);
            DUE.same("holds(0, " + wrong + ")", x.holds(0, wrong), 0);
        }
        x = valued();
        for (int key = 0; key < 12; key++) {
            DUE.same("let go of: holds(" + key + ", 0)", x.holds(key, 0), 0);
        }
    }
}
