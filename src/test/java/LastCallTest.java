/** Runs as long as the document allows: the 512th call is answered like all others. */
public final class LastCallTest {
    private static final Due DUE = new Due();
    private static final int CALLS = 512;

    public static void main(String[] args) {
        DUE.sentence("An object is used for at most 512 calls after it has been made;");
        manyViews();
        everythingFull();
        manyRefusals();
        DUE.end();
    }

    private static void manyViews() {
        for (int g = 0; g < 4; g++) {
            CommitGroups x = new CommitGroups();
            for (int v = 1; v <= CALLS; v++) {
                DUE.same("call " + v + ": elect(" + g + ")", x.elect(g), v);
            }
        }
        CommitGroups x = new CommitGroups();
        x.crash(1, 2);
        for (int v = 1; v <= CALLS - 2; v++) {
            DUE.same("elect(1)", x.elect(1), v / 2 * 3 + v % 2);
        }
        DUE.same("call 512: leader(1)", x.leader(1), 0);
    }

    /** All transactions have all operations, all four logs have 60 entries and are executed. */
    private static void everythingFull() {
        CommitGroups x = new CommitGroups();
        for (int t = 1; t <= 20; t++) {
            Steps.transaction(x, Steps.ADD, 0, t, Steps.ADD, 1, t, Steps.ADD, 2, t, Steps.READ, 3, 0);
        }
        for (int g = 0; g < 4; g++) {
            Steps.leaveAlone(x, g);
        }
        for (int i = 1; i <= 60; i++) {
            for (int s = 0; s < 3; s++) {
                DUE.same("prepare, alone", x.prepare(1 + (i - 1) % 20, s, true), -5);
            }
            DUE.same("timeout, alone", x.timeout(20 - (i - 1) % 20, true), -5);
        }
        for (int g = 0; g < 4; g++) {
            x.restart(g, 1);
            DUE.same("elect(" + g + ")", x.elect(g), 1);
            DUE.same("executed(" + g + ", 1)", x.executed(g, 1), 60);
        }
        for (int s = 0; s < 3; s++) {
            DUE.same("prepare(1, " + s + ", true)", x.prepare(1, s, true), 1);
            DUE.same("prepare(20, " + s + ", true)", x.prepare(20, s, true), 2);
            DUE.same("holds(" + s + ", 1)", x.holds(s, 1), 1);
        }
        DUE.same("holds(3, 1)", x.holds(3, 1), -1);
        for (int t = 1; t <= 20; t++) {
            DUE.same("timeout(" + t + ", true)", x.timeout(t, true), 2);
            DUE.same("finish(" + t + ", 1)", x.finish(t, 1), -4);
        }
        DUE.same("decide(1, true)", x.decide(1, true), 2);
        DUE.same("open()", x.open(), -1);
    }

    private static void manyRefusals() {
        CommitGroups x = Steps.with(1, Steps.ADD, 0, 1);
        for (int call = 3; call < CALLS; call++) {
            DUE.same("prepare(1, 1, true)", x.prepare(1, 1, true), -1);
        }
        DUE.same("call 512: prepare(1, 0, true)", x.prepare(1, 0, true), 1);
    }
}
