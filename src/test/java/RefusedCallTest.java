import java.util.ArrayList;
import java.util.Arrays;
import java.util.List;
import java.util.Random;
import java.util.function.Function;

/** A call that is answered -1, -2 or false changes nothing, nor does a call that only looks. */
public final class RefusedCallTest {
    private static final Due DUE = new Due();

    /** A call with its name; a boolean counts 1 or 0. */
    private record Call(String name, Function<CommitGroups, Long> made) {
        static Call of(String name, Function<CommitGroups, Integer> made) {
            return new Call(name, x -> (long) made.apply(x));
        }

        static Call asked(String name, Function<CommitGroups, Boolean> made) {
            return new Call(name, x -> made.apply(x) ? 1L : 0L);
        }

        boolean refused(long answer) {
            boolean asking = name.startsWith("touch") || name.startsWith("crash") || name.startsWith("restart")
                    || name.startsWith("halt") || name.startsWith("resume");
            return asking ? answer == 0 : answer == -1 || answer == -2;
        }
    }

    public static void main(String[] args) {
        DUE.sentence("A call that is answered -1, -2 or false changes nothing.");
        eachRefusal();
        looksChangeNothing();
        for (int seed = 0; seed < 1500; seed++) {
            runsWithoutRefusals(seed);
        }
        DUE.end();
    }

    /**
     * 20 transactions: 1 committed, 2 and 3 voted, 4 given up, 5 full, 6 with two operations, 7 and
     * more without any. Shard 1 has one replica up, shard 2 none, group 3 all; 2 of shard 0 is down.
     */
    private static CommitGroups rich(boolean coordinatorUp) {
        CommitGroups x = new CommitGroups();
        Steps.transaction(x, Steps.PUT, 0, 5, Steps.ADD, 1, 6);
        Steps.transaction(x, Steps.ADD, 0, 1, Steps.READ, 1, 0);
        Steps.transaction(x, Steps.READ, 0, 0, Steps.READ, 1, 0);
        Steps.transaction(x, Steps.READ, 3, 0);
        Steps.transaction(x, Steps.ADD, 0, 1, Steps.ADD, 0, 1, Steps.ADD, 0, 1, Steps.ADD, 0, 1);
        Steps.transaction(x, Steps.ADD, 1, 1, Steps.ADD, 2, 1);
        for (int t = 7; t <= 20; t++) {
            x.open();
        }
        Steps.commit(x, 1, 0, 1);
        for (int t = 2; t <= 3; t++) {
            x.prepare(t, 0, true);
            x.prepare(t, 1, true);
        }
        x.timeout(4, true);
        x.crash(0, 2);
        Steps.leaveAlone(x, 1);
        Steps.crashAll(x, 2);
        if (!coordinatorUp) {
            x.halt();
        }
        return x;
    }

    /** Uses what could have been changed without being seen: what is open, the logs, the states. */
    private static long[] aftermath(CommitGroups x) {
        long[] answers = new long[40];
        int n = 0;
        for (int t = 4; t <= 8; t++) {
            answers[n++] = x.touch(t, 0, 4, 0) ? 1 : 0;
        }
        answers[n++] = x.resume() ? 1 : 0;
        for (int t = 2; t <= 6; t++) {
            answers[n++] = x.decide(t, true);
        }
        for (int g = 0; g < 4; g++) {
            for (int r = 0; r < 3; r++) {
                answers[n++] = x.restart(g, r) ? 1 : 0;
            }
            answers[n++] = x.elect(g);
        }
        for (int t = 5; t <= 8; t++) {
            answers[n++] = x.prepare(t, 1, true);
            answers[n++] = x.timeout(t, true);
        }
        answers[n++] = x.finish(4, 0);
        answers[n++] = x.finish(2, 1);
        answers[n++] = x.open();
        return answers;
    }

    private static List<Call> refusals() {
        List<Call> calls = new ArrayList<>(List.of(Call.of("open()", CommitGroups::open)));
        for (int t : new int[] {0, -1, 21, Integer.MIN_VALUE, Integer.MAX_VALUE}) {
            calls.add(Call.asked("touch(" + t + ", 1, 0, 9)", x -> x.touch(t, 1, 0, 9)));
            calls.add(Call.of("prepare(" + t + ", 0, true)", x -> x.prepare(t, 0, true)));
            calls.add(Call.of("decide(" + t + ", true)", x -> x.decide(t, true)));
            calls.add(Call.of("timeout(" + t + ", true)", x -> x.timeout(t, true)));
            calls.add(Call.of("finish(" + t + ", 0)", x -> x.finish(t, 0)));
        }
        for (int t = 1; t <= 5; t++) {
            int no = t;
            calls.add(Call.asked("touch(" + t + ", 1, 0, 9), closed or full", x -> x.touch(no, 1, 0, 9)));
        }
        for (int wrong : new int[] {-1, 3, 12, Integer.MAX_VALUE}) {
            calls.add(Call.asked("touch(6, " + wrong + ", 0, 9)", x -> x.touch(6, wrong, 0, 9)));
            calls.add(Call.of("prepare(2, " + wrong + ", true)", x -> x.prepare(2, wrong, true)));
            calls.add(Call.of("finish(1, " + wrong + ")", x -> x.finish(1, wrong)));
            calls.add(Call.asked("crash(0, " + wrong + ")", x -> x.crash(0, wrong)));
            calls.add(Call.asked("restart(0, " + wrong + ")", x -> x.restart(0, wrong)));
        }
        for (int wrong : new int[] {-1, 4, 12, Integer.MAX_VALUE}) {
            calls.add(Call.asked("crash(" + wrong + ", 0)", x -> x.crash(wrong, 0)));
            calls.add(Call.asked("restart(" + wrong + ", 0)", x -> x.restart(wrong, 0)));
            calls.add(Call.of("elect(" + wrong + ")", x -> x.elect(wrong)));
        }
        calls.add(Call.asked("touch(6, 0, -1, 9)", x -> x.touch(6, 0, -1, 9)));
        calls.add(Call.asked("touch(6, 0, 12, 9)", x -> x.touch(6, 0, 12, 9)));
        calls.add(Call.of("prepare(6, 0, true), not touched", x -> x.prepare(6, 0, true)));
        calls.add(Call.of("prepare(7, 0, true), without operations", x -> x.prepare(7, 0, true)));
        calls.add(Call.of("finish(4, 1), not touched", x -> x.finish(4, 1)));
        calls.add(Call.of("decide(7, true), without operations", x -> x.decide(7, true)));
        calls.add(Call.of("timeout(7, true), without operations", x -> x.timeout(7, true)));
        calls.add(Call.asked("crash(0, 2), down", x -> x.crash(0, 2)));
        calls.add(Call.asked("restart(0, 0), up", x -> x.restart(0, 0)));
        calls.add(Call.of("elect(1), one up", x -> x.elect(1)));
        calls.add(Call.of("elect(2), none up", x -> x.elect(2)));
        return calls;
    }

    private static List<Call> refusalsWhileDown() {
        List<Call> calls = refusals();
        calls.add(Call.asked("halt(), down", CommitGroups::halt));
        for (int t = 1; t <= 6; t++) {
            int no = t;
            calls.add(Call.of("decide(" + t + ", true), down", x -> x.decide(no, true)));
            calls.add(Call.of("timeout(" + t + ", true), down", x -> x.timeout(no, true)));
        }
        calls.add(Call.of("prepare(2, 0, true), down", x -> x.prepare(2, 0, true)));
        calls.add(Call.of("prepare(5, 0, true), down", x -> x.prepare(5, 0, true)));
        calls.add(Call.of("prepare(6, 1, true), down", x -> x.prepare(6, 1, true)));
        calls.add(Call.of("prepare(6, 2, true), down", x -> x.prepare(6, 2, true)));
        calls.add(Call.of("finish(1, 0), down", x -> x.finish(1, 0)));
        calls.add(Call.of("finish(4, 0), down", x -> x.finish(4, 0)));
        return calls;
    }

    private static void eachRefusal() {
        List<Call> whileUp = refusals();
        whileUp.add(Call.asked("resume(), up", CommitGroups::resume));
        refuse(true, whileUp);
        refuse(false, refusalsWhileDown());
    }

    private static void refuse(boolean coordinatorUp, List<Call> calls) {
        long[] seen = Steps.look(rich(coordinatorUp));
        CommitGroups untouched = rich(coordinatorUp);
        long[] after = aftermath(untouched);
        long[] seenAfter = Steps.look(untouched);
        for (Call call : calls) {
            CommitGroups x = rich(coordinatorUp);
            DUE.yes(call.name() + " is refused", call.refused(call.made().apply(x)));
            DUE.yes("the same look after " + call.name(), Arrays.equals(Steps.look(x), seen));
            x = rich(coordinatorUp);
            call.made().apply(x);
            DUE.yes("the same answers after " + call.name(), Arrays.equals(aftermath(x), after));
            DUE.yes("the same look after these", Arrays.equals(Steps.look(x), seenAfter));
        }
    }

    private static void looksChangeNothing() {
        CommitGroups looked = rich(true);
        CommitGroups other = rich(true);
        Steps.look(looked);
        DUE.yes("the same answers after a look", Arrays.equals(aftermath(looked), aftermath(other)));
    }

    private static Call any(Random random) {
        int t = random.nextInt(24) - 1;
        int s = random.nextInt(5) - 1;
        int g = random.nextInt(6) - 1;
        int r = random.nextInt(5) - 1;
        int key = random.nextInt(14) - 1;
        int kind = random.nextInt(5) - 1;
        boolean back = random.nextInt(4) != 0;
        return switch (random.nextInt(30)) {
            case 0, 1, 2, 3 -> Call.of("open()", CommitGroups::open);
            case 4, 5, 6, 7, 8 -> Call.asked("touch", x -> x.touch(t, kind, key, 3));
            case 9, 10, 11, 12, 13 -> Call.of("prepare", x -> x.prepare(t, s, back));
            case 14, 15, 16 -> Call.of("decide", x -> x.decide(t, back));
            case 17 -> Call.of("timeout", x -> x.timeout(t, back));
            case 18, 19, 20, 21 -> Call.of("finish", x -> x.finish(t, s));
            case 22, 23 -> Call.asked("crash", x -> x.crash(g, r));
            case 24, 25 -> Call.asked("restart", x -> x.restart(g, r));
            case 26 -> Call.of("elect", x -> x.elect(g));
            case 27 -> random.nextInt(3) == 0 ? Call.asked("halt", CommitGroups::halt)
                    : Call.asked("resume", CommitGroups::resume);
            default -> Call.asked("resume", CommitGroups::resume);
        };
    }

    /** 240 calls and a look; then the same calls without those that were refused. */
    private static void runsWithoutRefusals(int seed) {
        Random random = new Random(seed);
        CommitGroups first = new CommitGroups();
        List<Call> kept = new ArrayList<>();
        List<Long> answers = new ArrayList<>();
        for (int i = 0; i < 240; i++) {
            Call call = any(random);
            long answer = call.made().apply(first);
            if (!call.refused(answer)) {
                kept.add(call);
                answers.add(answer);
            }
        }
        CommitGroups second = new CommitGroups();
        for (int i = 0; i < kept.size(); i++) {
            DUE.same("run " + seed + ", " + kept.get(i).name(), kept.get(i).made().apply(second), answers.get(i));
        }
        DUE.yes("run " + seed + ", the same look", Arrays.equals(Steps.look(first), Steps.look(second)));
    }
}
