import java.util.ArrayList;
import java.util.Arrays;
import java.util.HashSet;
import java.util.List;
import java.util.Set;
import java.util.function.ToLongFunction;

/**
 * Every short run of the calls of a small world, compared with the Model: each answer, and all that
 * can be seen after it. Of runs that lead the model to the same state only one is gone on with.
 */
public final class ShortRunsTest {
    private record Call(String told, ToLongFunction<CommitGroups> program, ToLongFunction<Model> model) { }

    private static final int TRANSACTIONS = 3;
    private static final int[] KEYS = {0, 1, 3};

    // Transactions 1 and 2 hinder one another at key 0, 3 touches two shards and reads key 0.
    private static final List<Call> SETUP = List.of(
            open(), touch(1, 2, 0, 7),
            open(), touch(2, 1, 0, 5), touch(2, 0, 3, 0),
            open(), touch(3, 0, 0, 0), touch(3, 2, 1, 4));

    private static final List<Call> ONE_SHARD = with(replicasOf(0),
            prepare(1, 0, true), prepare(2, 0, true), decide(1, true), decide(2, true),
            timeout(1, true), timeout(2, true), finish(1, 0), finish(2, 0), halt(), resume());

    private static final List<Call> DECISIONS = with(replicasOf(3),
            prepare(1, 0, true), prepare(1, 0, false), decide(1, true), decide(1, false),
            timeout(1, true), timeout(1, false), timeout(2, true), finish(1, 0), halt(), resume());

    private static final List<Call> TWO_SHARDS = with(with(replicasOf(1), crash(3, 0), restart(3, 0), elect(3)),
            prepare(2, 0, true), prepare(3, 0, true), prepare(3, 1, true), decide(2, true), decide(3, true),
            timeout(3, true), finish(2, 0), finish(3, 0), finish(3, 1), halt(), resume());

    private static int compared;
    private static int wrong;

    public static void main(String[] args) {
        explore(ONE_SHARD, 6);
        explore(DECISIONS, 6);
        explore(TWO_SHARDS, 5);
        System.out.println(compared + " short runs compared, " + wrong + " not as due");
        if (wrong != 0) {
            System.exit(1);
        }
    }

    private static void explore(List<Call> world, int depth) {
        Set<String> seen = new HashSet<>();
        List<List<Call>> runs = List.of(List.of());
        for (int calls = 1; calls <= depth && wrong < 3; calls++) {
            List<List<Call>> longer = new ArrayList<>();
            for (List<Call> run : runs) {
                for (Call call : world) {
                    List<Call> next = with(run, call);
                    if (seen.add(compare(next))) {
                        longer.add(next);
                    }
                }
            }
            runs = longer;
        }
    }

    /** The state of the model after the run. */
    private static String compare(List<Call> run) {
        CommitGroups program = new CommitGroups();
        Model model = new Model();
        boolean same = true;
        for (Call call : SETUP) {
            same &= call.program.applyAsLong(program) == call.model.applyAsLong(model);
        }
        for (Call call : run) {
            same &= call.program.applyAsLong(program) == call.model.applyAsLong(model);
        }
        compared++;
        if (!same || model.broken != null || !looksSame(program, model)) {
            wrong++;
            System.out.println("not as due (" + model.broken + "): " + run.stream().map(Call::told).toList());
        }
        return model.told();
    }

    private static boolean looksSame(CommitGroups program, Model model) {
        return groupsLookSame(program, model) && keysLookSame(program, model) && knowledgeLooksSame(program, model);
    }

    private static boolean groupsLookSame(CommitGroups program, Model model) {
        boolean same = true;
        for (int g = 0; g < 4; g++) {
            same &= program.leader(g) == model.leader(g);
            for (int r = 0; r < 3; r++) {
                same &= program.view(g, r) == model.view(g, r);
                same &= program.length(g, r) == model.length(g, r);
                same &= program.executed(g, r) == model.executed(g, r);
            }
        }
        return same;
    }

    private static boolean keysLookSame(CommitGroups program, Model model) {
        boolean same = true;
        for (int key : KEYS) {
            for (int r = 0; r < 3; r++) {
                same &= program.value(key, r) == model.value(key, r);
                same &= program.holds(key, r) == model.holds(key, r);
            }
        }
        return same;
    }

    private static boolean knowledgeLooksSame(CommitGroups program, Model model) {
        boolean same = true;
        for (int t = 1; t <= TRANSACTIONS; t++) {
            same &= program.outcome(t) == model.outcome(t);
            for (int n = 0; n < 3; n++) {
                same &= program.vote(t, n) == model.vote(t, n);
                same &= program.result(t, n) == model.result(t, n);
            }
        }
        return same;
    }

    private static List<Call> with(List<Call> calls, Call... more) {
        List<Call> all = new ArrayList<>(calls);
        all.addAll(Arrays.asList(more));
        return all;
    }

    private static List<Call> replicasOf(int g) {
        List<Call> calls = new ArrayList<>();
        calls.add(elect(g));
        for (int r = 0; r < 3; r++) {
            calls.add(crash(g, r));
            calls.add(restart(g, r));
        }
        return calls;
    }

    private static long number(boolean answer) {
        return answer ? 1 : 0;
    }

    private static Call open() {
        return new Call("open()", x -> x.open(), x -> x.open());
    }

    private static Call touch(int t, int kind, int key, int v) {
        return new Call("touch(" + t + ", " + kind + ", " + key + ", " + v + ")",
                x -> number(x.touch(t, kind, key, v)), x -> number(x.touch(t, kind, key, v)));
    }

    private static Call prepare(int t, int s, boolean back) {
        return new Call("prepare(" + t + ", " + s + ", " + back + ")",
                x -> x.prepare(t, s, back), x -> x.prepare(t, s, back));
    }

    private static Call decide(int t, boolean back) {
        return new Call("decide(" + t + ", " + back + ")", x -> x.decide(t, back), x -> x.decide(t, back));
    }

    private static Call timeout(int t, boolean back) {
        return new Call("timeout(" + t + ", " + back + ")", x -> x.timeout(t, back), x -> x.timeout(t, back));
    }

    private static Call finish(int t, int s) {
        return new Call("finish(" + t + ", " + s + ")", x -> x.finish(t, s), x -> x.finish(t, s));
    }

    private static Call crash(int g, int r) {
        return new Call("crash(" + g + ", " + r + ")", x -> number(x.crash(g, r)), x -> number(x.crash(g, r)));
    }

    private static Call restart(int g, int r) {
        return new Call("restart(" + g + ", " + r + ")", x -> number(x.restart(g, r)), x -> number(x.restart(g, r)));
    }

    private static Call elect(int g) {
        return new Call("elect(" + g + ")", x -> x.elect(g), x -> x.elect(g));
    }

    private static Call halt() {
        return new Call("halt()", x -> number(x.halt()), x -> number(x.halt()));
    }

    private static Call resume() {
        return new Call("resume()", x -> number(x.resume()), x -> number(x.resume()));
    }
}
