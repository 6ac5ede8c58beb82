/** The edges of promises 1 to 3 and of 'open' and 'closed', sentence by sentence. */
public final class TransactionEdgeTest {
    private static final Due DUE = new Due();
    private static final int READ = Steps.READ;
    private static final int PUT = Steps.PUT;
    private static final int ADD = Steps.ADD;

    public static void main(String[] args) {
        newObjectIsEmpty();
        newObjectsAreApart();
        openUntilFull();
        openInAnyState();
        touchPutsAtTheEnd();
        touchReadWithoutV();
        touchSameKeyAgain();
        touchNoTransaction();
        touchClosed();
        touchFull();
        touchWrongKind();
        touchWrongKey();
        closedByAnswers();
        closedByFailedPrepare();
        closedByFailedTimeout();
        openAfterRefusals();
        DUE.end();
    }

    private static void newObjectIsEmpty() {
        DUE.sentence("No transactions, all replicas and the coordinator up, all values 0.");
        CommitGroups x = new CommitGroups();
        for (int t = -1; t <= 21; t++) {
            DUE.no("touch(" + t + ", 0, 0, 0)", x.touch(t, READ, 0, 0));
            DUE.same("decide(" + t + ", true)", x.decide(t, true), -1);
        }
        for (int g = 0; g < 4; g++) {
            for (int r = 0; r < 3; r++) {
                DUE.no("restart(" + g + ", " + r + ")", x.restart(g, r));
            }
        }
        DUE.no("resume()", x.resume());
        for (int key = 0; key < 12; key++) {
            for (int r = 0; r < 3; r++) {
                DUE.same("value(" + key + ", " + r + ")", x.value(key, r), 0);
            }
        }
        DUE.same("open()", x.open(), 1);
    }

    private static void newObjectsAreApart() {
        DUE.sentence("No transactions, all replicas and the coordinator up, all values 0.");
        CommitGroups used = Steps.with(20, ADD, 0, 1);
        Steps.commit(used, 1, 0);
        used.prepare(2, 0, true);
        used.halt();
        Steps.crashAll(used, 1);
        used.elect(2);
        long[] fresh = Steps.look(new CommitGroups());
        for (int i = 0; i < fresh.length; i++) {
            DUE.yes("answer " + i + " of a new object beside a used one: " + fresh[i],
                    fresh[i] == 0 || fresh[i] == CommitGroups.NONE);
        }
    }

    private static void openUntilFull() {
        DUE.sentence("A new transaction without operations: its number; -1 if there are 20 already.");
        CommitGroups x = new CommitGroups();
        for (int t = 1; t <= 20; t++) {
            DUE.same("open()", x.open(), t);
            DUE.same("without operations: timeout(" + t + ", true)", x.timeout(t, true), -1);
            DUE.same("not opened yet: outcome(" + (t + 1) + ")", x.outcome(t + 1), 0);
            DUE.no("not opened yet: touch(" + (t + 1) + ", 0, 0, 0)", x.touch(t + 1, READ, 0, 0));
        }
        for (int i = 0; i < 3; i++) {
            DUE.same("open()", x.open(), -1);
        }
        DUE.no("touch(21, 0, 0, 0)", x.touch(21, READ, 0, 0));
        DUE.yes("touch(20, 0, 0, 0)", x.touch(20, READ, 0, 0));
    }

    private static void openInAnyState() {
        DUE.sentence("A new transaction without operations: its number; -1 if there are 20 already.");
        CommitGroups x = Steps.with(1, ADD, 0, 1);
        Steps.commit(x, 1, 0);
        DUE.same("after a commit: open()", x.open(), 2);
        x.touch(2, ADD, 0, 1);
        x.timeout(2, true);
        x.halt();
        DUE.same("the coordinator down: open()", x.open(), 3);
        for (int g = 0; g < 4; g++) {
            Steps.crashAll(x, g);
        }
        DUE.same("all replicas down: open()", x.open(), 4);
        for (int t = 5; t <= 20; t++) {
            x.open();
        }
        DUE.same("closed ones count too: open()", x.open(), -1);
    }

    private static void touchPutsAtTheEnd() {
        DUE.sentence("at the end of transaction t: true;");
        CommitGroups x = new CommitGroups();
        x.open();
        x.open();
        DUE.yes("touch(2, 1, 0, 8)", x.touch(2, PUT, 0, 8));
        DUE.yes("touch(1, 2, 1, 1)", x.touch(1, ADD, 1, 1));
        DUE.yes("touch(2, 0, 0, 0)", x.touch(2, READ, 0, 0));
        DUE.yes("touch(1, 2, 1, 2)", x.touch(1, ADD, 1, 2));
        Steps.commit(x, 1, 1);
        Steps.commit(x, 2, 0);
        DUE.same("result(1, 0)", x.result(1, 0), 1);
        DUE.same("result(1, 1)", x.result(1, 1), 3);
        DUE.same("result(2, 0)", x.result(2, 0), 0);
        DUE.same("result(2, 1)", x.result(2, 1), 8);
    }

    private static void touchReadWithoutV() {
        DUE.sentence("v does not matter for READ;");
        CommitGroups x = new CommitGroups();
        x.open();
        for (int v : new int[] {Integer.MIN_VALUE, -1, 1, Integer.MAX_VALUE}) {
            DUE.yes("touch(1, 0, 4, " + v + ")", x.touch(1, READ, 4, v));
        }
        Steps.commit(x, 1, 1);
        for (int i = 0; i < 4; i++) {
            DUE.same("result(1, " + i + ")", x.result(1, i), 0);
        }
        DUE.same("value(4, 0)", x.value(4, 0), 0);
    }

    private static void touchSameKeyAgain() {
        DUE.sentence("the same key again, too)");
        for (int kind = READ; kind <= ADD; kind++) {
            CommitGroups x = new CommitGroups();
            x.open();
            for (int i = 0; i < 4; i++) {
                DUE.yes("touch(1, " + kind + ", 11, 3)", x.touch(1, kind, 11, 3));
            }
            DUE.same("prepare(1, 2, true)", x.prepare(1, 2, true), 1);
            DUE.same("holds(11, 0)", x.holds(11, 0), kind == READ ? -1 : 1);
            x.decide(1, true);
            DUE.same("result(1, 3)", x.result(1, 3), kind == READ ? 0 : kind == PUT ? 3 : 12);
            x.finish(1, 2);
            DUE.same("value(11, 0)", x.value(11, 0), kind == READ ? 0 : kind == PUT ? 3 : 12);
            DUE.same("holds(11, 0)", x.holds(11, 0), 0);
        }
    }

    private static void touchNoTransaction() {
        DUE.sentence("false if there is no transaction t,");
        CommitGroups x = Steps.with(2, READ, 0, 0);
        for (int wrong : Steps.NOWHERE) {
            DUE.no("touch(" + wrong + ", 0, 0, 0)", x.touch(wrong, READ, 0, 0));
        }
        DUE.no("touch(0, 0, 0, 0)", x.touch(0, READ, 0, 0));
        DUE.no("touch(3, 0, 0, 0)", x.touch(3, READ, 0, 0));
        DUE.same("open()", x.open(), 3);
        DUE.same("without operations: decide(3, true)", x.decide(3, true), -1);
        DUE.yes("touch(3, 0, 0, 0)", x.touch(3, READ, 0, 0));
    }

    private static void touchClosed() {
        DUE.sentence("it is closed,");
        CommitGroups x = Steps.with(2, READ, 0, 0);
        x.prepare(1, 0, true);
        DUE.no("prepared: touch(1, 2, 0, 1)", x.touch(1, ADD, 0, 1));
        DUE.yes("the other: touch(2, 2, 3, 1)", x.touch(2, ADD, 3, 1));
        x.decide(1, true);
        DUE.no("decided: touch(1, 2, 0, 1)", x.touch(1, ADD, 0, 1));
        x.finish(1, 0);
        DUE.no("finished: touch(1, 2, 0, 1)", x.touch(1, ADD, 0, 1));
        x.halt();
        DUE.no("the coordinator down: touch(1, 2, 0, 1)", x.touch(1, ADD, 0, 1));
        x.resume();
        DUE.no("the coordinator back: touch(1, 2, 0, 1)", x.touch(1, ADD, 0, 1));
        DUE.same("value(0, 0)", x.value(0, 0), 0);
        DUE.same("one operation only: result(1, 1)", x.result(1, 1), CommitGroups.NONE);
    }

    private static void touchFull() {
        DUE.sentence("has 4 operations,");
        CommitGroups x = new CommitGroups();
        x.open();
        for (int i = 0; i < 4; i++) {
            DUE.yes("touch(1, 2, 0, 1)", x.touch(1, ADD, 0, 1));
        }
        DUE.no("a fifth: touch(1, 2, 0, 1)", x.touch(1, ADD, 0, 1));
        DUE.no("a fifth: touch(1, 2, 1, 1)", x.touch(1, ADD, 1, 1));
        DUE.same("not touched by this: prepare(1, 1, true)", x.prepare(1, 1, true), -1);
        Steps.commit(x, 1, 0);
        DUE.same("value(0, 0)", x.value(0, 0), 4);
        x.open();
        DUE.yes("another: touch(2, 2, 0, 1)", x.touch(2, ADD, 0, 1));
    }

    private static void touchWrongKind() {
        DUE.sentence("or kind is not 0 .. 2,");
        CommitGroups x = new CommitGroups();
        x.open();
        for (int wrong : Steps.NOWHERE) {
            DUE.no("touch(1, " + wrong + ", 0, 0)", x.touch(1, wrong, 0, 0));
        }
        DUE.no("touch(1, 3, 0, 0)", x.touch(1, 3, 0, 0));
        DUE.no("touch(1, 4, 0, 0)", x.touch(1, 4, 0, 0));
        DUE.same("without operations: decide(1, true)", x.decide(1, true), -1);
        for (int kind = READ; kind <= ADD; kind++) {
            DUE.yes("touch(1, " + kind + ", 0, 0)", x.touch(1, kind, 0, 0));
        }
    }

    private static void touchWrongKey() {
        DUE.sentence("or key not 0 .. 11.");
        CommitGroups x = new CommitGroups();
        x.open();
        for (int wrong : Steps.NOWHERE) {
            DUE.no("touch(1, 0, " + wrong + ", 0)", x.touch(1, READ, wrong, 0));
        }
        DUE.no("touch(1, 0, 12, 0)", x.touch(1, READ, 12, 0));
        DUE.no("touch(1, 0, 13, 0)", x.touch(1, READ, 13, 0));
        DUE.same("without operations: decide(1, true)", x.decide(1, true), -1);
        DUE.yes("touch(1, 0, 0, 0)", x.touch(1, READ, 0, 0));
        DUE.yes("touch(1, 0, 11, 0)", x.touch(1, READ, 11, 0));
    }

    private static void closedByAnswers() {
        DUE.sentence("A transaction is OPEN at first and CLOSED from the first prepare() or timeout() for it "
                + "that is not answered -1 or -2");
        CommitGroups x = Steps.with(6, ADD, 0, 1);
        DUE.same("prepare(1, 0, true)", x.prepare(1, 0, true), 1);
        DUE.same("prepare(2, 0, true)", x.prepare(2, 0, true), 2);
        DUE.same("prepare(3, 0, false)", x.prepare(3, 0, false), 3);
        DUE.same("timeout(4, true)", x.timeout(4, true), 2);
        DUE.same("timeout(5, false)", x.timeout(5, false), 3);
        DUE.same("an open one may be decided: decide(6, true)", x.decide(6, true), 0);
        DUE.same("an open one may be finished: finish(6, 0)", x.finish(6, 0), 0);
        for (int t = 1; t <= 6; t++) {
            DUE.same("touch(" + t + ", 0, 1, 0)", x.touch(t, READ, 1, 0) ? 1 : 0, t == 6 ? 1 : 0);
        }
    }

    private static void closedByFailedPrepare() {
        DUE.sentence("(also when it is answered -3, -4 or -5).");
        CommitGroups x = Steps.with(3, ADD, 0, 1);
        Steps.leaveAlone(x, 0);
        DUE.same("prepare(1, 0, true)", x.prepare(1, 0, true), -5);
        DUE.no("-5: touch(1, 0, 0, 0)", x.touch(1, READ, 0, 0));
        Steps.fill(x, 0, 1, 60);
        DUE.same("prepare(2, 0, true)", x.prepare(2, 0, true), -4);
        DUE.no("-4: touch(2, 0, 0, 0)", x.touch(2, READ, 0, 0));
        x.crash(0, 0);
        DUE.same("prepare(3, 0, true)", x.prepare(3, 0, true), -3);
        DUE.no("-3: touch(3, 0, 0, 0)", x.touch(3, READ, 0, 0));
    }

    private static void closedByFailedTimeout() {
        DUE.sentence("(also when it is answered -3, -4 or -5).");
        CommitGroups x = Steps.with(3, ADD, 0, 1);
        Steps.leaveAlone(x, 3);
        DUE.same("timeout(1, true)", x.timeout(1, true), -5);
        DUE.no("-5: touch(1, 0, 0, 0)", x.touch(1, READ, 0, 0));
        for (int i = 1; i < 60; i++) {
            x.timeout(1, true);
        }
        DUE.same("timeout(2, true)", x.timeout(2, true), -4);
        DUE.no("-4: touch(2, 0, 0, 0)", x.touch(2, READ, 0, 0));
        x.crash(3, 0);
        DUE.same("timeout(3, true)", x.timeout(3, true), -3);
        DUE.no("-3: touch(3, 0, 0, 0)", x.touch(3, READ, 0, 0));
    }

    private static void openAfterRefusals() {
        DUE.sentence("that is not answered -1 or -2");
        CommitGroups x = new CommitGroups();
        x.open();
        DUE.same("timeout(1, true)", x.timeout(1, true), -1);
        DUE.same("prepare(1, 0, true)", x.prepare(1, 0, true), -1);
        DUE.yes("-1: touch(1, 2, 0, 1)", x.touch(1, ADD, 0, 1));
        DUE.same("prepare(1, 1, true)", x.prepare(1, 1, true), -1);
        DUE.same("prepare(1, 3, true)", x.prepare(1, 3, true), -1);
        DUE.yes("-1: touch(1, 2, 0, 1)", x.touch(1, ADD, 0, 1));
        x.halt();
        DUE.same("prepare(1, 0, true)", x.prepare(1, 0, true), -2);
        DUE.yes("-2: touch(1, 2, 0, 1)", x.touch(1, ADD, 0, 1));
        DUE.same("timeout(1, true)", x.timeout(1, true), -2);
        DUE.yes("-2: touch(1, 2, 0, 1)", x.touch(1, ADD, 0, 1));
        x.resume();
        Steps.commit(x, 1, 0);
        DUE.same("value(0, 0)", x.value(0, 0), 4);
    }
}
