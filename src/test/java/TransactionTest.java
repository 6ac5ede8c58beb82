/** Promises 1 to 3: a new object, open and touch. */
public final class TransactionTest {
    private static final Due DUE = new Due();

    public static void main(String[] args) {
        newObject();
        openNumbers();
        touchOrdinary();
        touchWrongInputs();
        touchClosedByPrepare();
        touchClosedByTimeout();
        touchNotClosedByRefusals();
        DUE.end();
    }

    private static void newObject() {
        DUE.part("promise 1");
        CommitGroups x = new CommitGroups();
        DUE.same("NONE", CommitGroups.NONE, 1099511627776L);
        for (int g = 0; g < 4; g++) {
            DUE.same("leader(" + g + ")", x.leader(g), 0);
            for (int r = 0; r < 3; r++) {
                String replica = "(" + g + ", " + r + ")";
                DUE.same("view" + replica, x.view(g, r), 0);
                DUE.same("length" + replica, x.length(g, r), 0);
                DUE.same("executed" + replica, x.executed(g, r), 0);
                DUE.no("restart" + replica, x.restart(g, r));
            }
        }
        for (int key = 0; key < 12; key++) {
            for (int r = 0; r < 3; r++) {
                DUE.same("value(" + key + ", " + r + ")", x.value(key, r), 0);
                DUE.same("holds(" + key + ", " + r + ")", x.holds(key, r), 0);
            }
        }
        DUE.no("resume()", x.resume());
        DUE.no("touch(1, 0, 0, 0)", x.touch(1, 0, 0, 0));
        DUE.same("prepare(1, 0, true)", x.prepare(1, 0, true), -1);
        DUE.same("decide(1, true)", x.decide(1, true), -1);
    }

    private static void openNumbers() {
        DUE.part("promise 2");
        CommitGroups x = new CommitGroups();
        CommitGroups y = new CommitGroups();
        for (int t = 1; t <= 20; t++) {
            DUE.same("open()", x.open(), t);
        }
        DUE.same("21st open()", x.open(), -1);
        DUE.same("22nd open()", x.open(), -1);
        DUE.yes("touch(20, 0, 0, 0)", x.touch(20, 0, 0, 0));
        DUE.no("touch(21, 0, 0, 0)", x.touch(21, 0, 0, 0));
        DUE.same("open() of another object", y.open(), 1);
        DUE.same("a new transaction has no operations: decide(1, true)", y.decide(1, true), -1);
        y.halt();
        DUE.same("open() without a coordinator", y.open(), 2);
    }

    private static void touchOrdinary() {
        DUE.part("promise 3");
        CommitGroups x = new CommitGroups();
        x.open();
        x.open();
        DUE.yes("touch(1, 0, 0, 9)", x.touch(1, 0, 0, 9));
        DUE.yes("touch(1, 1, 11, -1)", x.touch(1, 1, 11, -1));
        DUE.yes("touch(1, 2, 11, 3)", x.touch(1, 2, 11, 3));
        DUE.yes("touch(1, 2, 11, 3)", x.touch(1, 2, 11, 3));
        DUE.no("a fifth operation", x.touch(1, 0, 11, 0));
        DUE.yes("another transaction", x.touch(2, 0, 5, 0));
        DUE.same("prepare(1, 2, true)", x.prepare(1, 2, true), 1);
        DUE.same("prepare(1, 0, true)", x.prepare(1, 0, true), 1);
        DUE.same("decide(1, true)", x.decide(1, true), 1);
        DUE.same("result(1, 0), READ without its v", x.result(1, 0), 0);
        DUE.same("result(1, 1), PUT", x.result(1, 1), 0);
        DUE.same("result(1, 2), ADD", x.result(1, 2), 2);
        DUE.same("result(1, 3), ADD again", x.result(1, 3), 5);
        DUE.same("result(1, 4), which was refused", x.result(1, 4), CommitGroups.NONE);
    }

    private static void touchWrongInputs() {
        DUE.part("promise 3, wrong inputs");
        CommitGroups x = new CommitGroups();
        x.open();
        int[] strange = {-1, Integer.MIN_VALUE, Integer.MAX_VALUE};
        DUE.no("touch(0, 0, 0, 0)", x.touch(0, 0, 0, 0));
        DUE.no("touch(2, 0, 0, 0)", x.touch(2, 0, 0, 0));
        DUE.no("touch(1, 3, 0, 0)", x.touch(1, 3, 0, 0));
        DUE.no("touch(1, 0, 12, 0)", x.touch(1, 0, 12, 0));
        for (int wrong : strange) {
            DUE.no("touch(" + wrong + ", 0, 0, 0)", x.touch(wrong, 0, 0, 0));
            DUE.no("touch(1, " + wrong + ", 0, 0)", x.touch(1, wrong, 0, 0));
            DUE.no("touch(1, 0, " + wrong + ", 0)", x.touch(1, 0, wrong, 0));
        }
        DUE.same("none of them was put: decide(1, true)", x.decide(1, true), -1);
        for (int i = 0; i < 4; i++) {
            DUE.yes("touch(1, 0, 0, " + strange[i % 3] + ")", x.touch(1, 0, 0, strange[i % 3]));
        }
    }

    private static void touchClosedByPrepare() {
        DUE.part("promise 3, closed by prepare");
        CommitGroups x = new CommitGroups();
        for (int t = 1; t <= 3; t++) {
            x.open();
            x.touch(t, 0, 0, 0);
        }
        DUE.same("prepare(1, 0, false)", x.prepare(1, 0, false), 3);
        DUE.no("touch(1, 0, 1, 0)", x.touch(1, 0, 1, 0));
        x.crash(0, 1);
        x.crash(0, 2);
        DUE.same("prepare(2, 0, true)", x.prepare(2, 0, true), -5);
        DUE.no("touch(2, 0, 1, 0)", x.touch(2, 0, 1, 0));
        x.crash(0, 0);
        DUE.same("prepare(3, 0, true)", x.prepare(3, 0, true), -3);
        DUE.no("touch(3, 0, 1, 0)", x.touch(3, 0, 1, 0));
    }

    private static void touchClosedByTimeout() {
        DUE.part("promise 3, closed by timeout");
        CommitGroups x = new CommitGroups();
        for (int t = 1; t <= 3; t++) {
            x.open();
            x.touch(t, 0, 0, 0);
        }
        DUE.same("timeout(1, false)", x.timeout(1, false), 3);
        DUE.no("touch(1, 0, 1, 0)", x.touch(1, 0, 1, 0));
        x.crash(3, 1);
        x.crash(3, 2);
        DUE.same("timeout(2, true)", x.timeout(2, true), -5);
        DUE.no("touch(2, 0, 1, 0)", x.touch(2, 0, 1, 0));
        x.crash(3, 0);
        DUE.same("timeout(3, true)", x.timeout(3, true), -3);
        DUE.no("touch(3, 0, 1, 0)", x.touch(3, 0, 1, 0));
    }

    private static void touchNotClosedByRefusals() {
        DUE.part("promise 3, not closed");
        CommitGroups x = new CommitGroups();
        x.open();
        DUE.same("timeout(1, true)", x.timeout(1, true), -1);
        DUE.same("prepare(1, 0, true)", x.prepare(1, 0, true), -1);
        DUE.yes("touch(1, 0, 0, 0)", x.touch(1, 0, 0, 0));
        DUE.same("prepare(1, 1, true)", x.prepare(1, 1, true), -1);
        DUE.yes("touch(1, 0, 1, 0)", x.touch(1, 0, 1, 0));
        DUE.same("decide(1, true)", x.decide(1, true), 0);
        DUE.same("finish(1, 0)", x.finish(1, 0), 0);
        DUE.yes("touch(1, 0, 2, 0)", x.touch(1, 0, 2, 0));
        x.halt();
        DUE.same("prepare(1, 0, true)", x.prepare(1, 0, true), -2);
        DUE.same("timeout(1, true)", x.timeout(1, true), -2);
        DUE.yes("touch(1, 0, 3, 0)", x.touch(1, 0, 3, 0));
    }
}
