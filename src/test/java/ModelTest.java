import java.util.ArrayList;
import java.util.List;
import java.util.Map;
import java.util.Random;
import java.util.Set;
import java.util.TreeMap;
import java.util.TreeSet;

/** Long random runs of calls, each answer compared with the one of the Model (all promises). */
public final class ModelTest {
    private static final int CALLS = 512;
    private static final int RUNS = 3000;

    /**
     * How a run is mixed: how often replicas and the coordinator fail, how many keys are used, how
     * many transactions are opened, and whether a log is nearly filled at the beginning.
     */
    private record Mix(int crashes, int restarts, int elections, int halts, int keys, int transactions,
            boolean filled) { }

    private static final Mix[] MIXES = {
        new Mix(0, 0, 1, 1, 12, 20, false),
        new Mix(2, 4, 3, 1, 12, 20, false),
        new Mix(6, 6, 4, 2, 4, 20, false),
        new Mix(6, 5, 1, 0, 3, 3, false),
        new Mix(3, 3, 2, 4, 2, 12, false),
        new Mix(1, 1, 1, 0, 12, 8, false),
        new Mix(1, 3, 2, 1, 6, 20, true),
    };

    private static final Map<String, Set<Long>> SEEN = new TreeMap<>();

    private final Random random;
    private final Mix mix;
    private final CommitGroups program = new CommitGroups();
    private final Model model = new Model();
    private final List<String> told = new ArrayList<>();
    private final int[] touched = new int[21];
    private int opened;
    private String wrong;

    private ModelTest(long seed) {
        random = new Random(seed);
        mix = MIXES[(int) (seed % MIXES.length)];
    }

    public static void main(String[] args) {
        int failures = 0;
        for (long seed = 0; seed < RUNS && failures < 3; seed++) {
            ModelTest test = new ModelTest(seed);
            if (!test.run()) {
                failures++;
                System.out.println("run " + seed + ": " + test.wrong + ", after:");
                System.out.println(String.join("\n", test.told));
            }
        }
        failures += unseen("prepare", -5, -4, -3, -2, -1, 1, 2, 3);
        failures += unseen("decide", -5, -4, -3, -2, -1, 0, 1, 2, 3);
        failures += unseen("timeout", -5, -4, -3, -2, -1, 1, 2, 3);
        failures += unseen("finish", -5, -4, -3, -2, -1, 0, 1);
        failures += unseen("vote", 0, 1, 2);
        failures += unseen("outcome", 0, 1, 2);
        failures += unseen("leader", -1, 0, 1, 2);
        failures += unseen("holds", -3, -2, -1, 0, 1, 2, 20);
        failures += unseen("length", -1, 0, 60);
        failures += unseen("executed", -1, 0, 60);
        failures += unseen("elect", -1, 1, 2, 3);
        System.out.println(RUNS + " runs of at most " + CALLS + " calls, " + failures + " failures");
        if (failures != 0) {
            System.exit(1);
        }
    }

    // The runs prove nothing about an answer that none of them has met.
    private static int unseen(String name, long... answers) {
        int missing = 0;
        for (long answer : answers) {
            if (!SEEN.getOrDefault(name, Set.of()).contains(answer)) {
                System.out.println("no run has seen " + name + " answer " + answer);
                missing++;
            }
        }
        return missing;
    }

    private boolean run() {
        if (mix.filled) {
            fill(random.nextInt(4), 50 + random.nextInt(11));
        }
        for (int call = told.size(); call < CALLS && wrong == null; call++) {
            int choice = random.nextInt(40 + mix.crashes + mix.restarts + mix.elections + mix.halts);
            if (choice < 26) {
                work(choice);
            } else if (choice < 40) {
                look();
            } else {
                disturb(choice - 40);
            }
            if (model.broken != null) {
                wrong = model.broken;
            }
        }
        return wrong == null;
    }

    // A leader alone puts entry after entry into its log; the others come back later, or never.
    private void fill(int g, int entries) {
        opened = program.open();
        compare("open", "()", opened, model.open());
        int key = g % 3;
        compare("touch", "(1, 2, " + key + ", 7)", program.touch(1, 2, key, 7), model.touch(1, 2, key, 7));
        touched[1] |= 1 << key;
        for (int r = 1; r < 3; r++) {
            compare("crash", "(" + g + ", " + r + ")", program.crash(g, r), model.crash(g, r));
        }
        for (int i = 0; i < entries; i++) {
            if (g == 3) {
                compare("timeout", "(1, true)", program.timeout(1, true), model.timeout(1, true));
            } else {
                compare("prepare", "(1, " + g + ", true)", program.prepare(1, g, true), model.prepare(1, g, true));
            }
        }
    }

    private void compare(String name, String arguments, long got, long want) {
        told.add(name + arguments + " -> " + got);
        SEEN.computeIfAbsent(name, key -> new TreeSet<>()).add(want);
        if (got != want) {
            wrong = name + arguments + " answered " + got + ", the model " + want;
        }
    }

    private void compare(String name, String arguments, boolean got, boolean want) {
        compare(name, arguments, got ? 1 : 0, want ? 1 : 0);
    }

    // Rarely one step outside of what exists; mostly the transactions opened last.
    private int anyTransaction() {
        if (random.nextInt(30) == 0) {
            return random.nextInt(24) - 1;
        }
        return opened < 1 ? 1 : Math.max(1, opened - random.nextInt(4));
    }

    private int any(int bound) {
        return random.nextInt(60) == 0 ? random.nextInt(bound + 4) - 2 : random.nextInt(bound);
    }

    // Mostly a shard that t touches: a call for another one is only refused.
    private int shardOf(int t) {
        int s = any(3);
        if (t < 1 || t > 20 || touched[t] == 0 || random.nextInt(8) == 0) {
            return s;
        }
        int near = Math.floorMod(s, 3);
        while ((touched[t] & 1 << near) == 0) {
            near = (near + 1) % 3;
        }
        return near;
    }

    private int amount() {
        return random.nextInt(8) == 0 ? random.nextInt() : random.nextInt(100) - 50;
    }

    private void work(int choice) {
        int t = anyTransaction();
        int s = shardOf(t);
        boolean back = random.nextInt(5) != 0;
        if (choice < 2) {
            if (opened < mix.transactions || random.nextInt(10) == 0) {
                int got = program.open();
                compare("open", "()", got, model.open());
                opened = Math.max(opened, got);
            }
        } else if (choice < 6) {
            int kind = any(3);
            int key = any(mix.keys);
            int v = amount();
            boolean put = model.touch(t, kind, key, v);
            compare("touch", "(" + t + ", " + kind + ", " + key + ", " + v + ")", program.touch(t, kind, key, v), put);
            if (put) {
                touched[t] |= 1 << key % 3;
            }
        } else if (choice < 14) {
            compare("prepare", "(" + t + ", " + s + ", " + back + ")",
                    program.prepare(t, s, back), model.prepare(t, s, back));
        } else if (choice < 19) {
            compare("decide", "(" + t + ", " + back + ")", program.decide(t, back), model.decide(t, back));
        } else if (choice < 20) {
            compare("timeout", "(" + t + ", " + back + ")", program.timeout(t, back), model.timeout(t, back));
        } else {
            compare("finish", "(" + t + ", " + s + ")", program.finish(t, s), model.finish(t, s));
        }
    }

    private void disturb(int choice) {
        int g = any(4);
        int r = any(3);
        String replica = "(" + g + ", " + r + ")";
        if (choice < mix.crashes) {
            compare("crash", replica, program.crash(g, r), model.crash(g, r));
        } else if (choice < mix.crashes + mix.restarts) {
            compare("restart", replica, program.restart(g, r), model.restart(g, r));
        } else if (choice < mix.crashes + mix.restarts + mix.elections) {
            compare("elect", "(" + g + ")", program.elect(g), model.elect(g));
        } else if (random.nextInt(3) == 0) {
            compare("halt", "()", program.halt(), model.halt());
        } else {
            compare("resume", "()", program.resume(), model.resume());
        }
    }

    private void look() {
        int t = anyTransaction();
        int key = any(mix.keys);
        int g = any(4);
        int r = any(3);
        String replica = "(" + g + ", " + r + ")";
        switch (random.nextInt(9)) {
            case 0 -> compare("vote", "(" + t + ", " + g + ")", program.vote(t, g), model.vote(t, g));
            case 1 -> compare("outcome", "(" + t + ")", program.outcome(t), model.outcome(t));
            case 2 -> {
                int i = any(4);
                compare("result", "(" + t + ", " + i + ")", program.result(t, i), model.result(t, i));
            }
            case 3 -> compare("leader", "(" + g + ")", program.leader(g), model.leader(g));
            case 4 -> compare("view", replica, program.view(g, r), model.view(g, r));
            case 5 -> compare("length", replica, program.length(g, r), model.length(g, r));
            case 6 -> compare("executed", replica, program.executed(g, r), model.executed(g, r));
            case 7 -> compare("value", "(" + key + ", " + r + ")", program.value(key, r), model.value(key, r));
            default -> compare("holds", "(" + key + ", " + r + ")", program.holds(key, r), model.holds(key, r));
        }
    }
}
