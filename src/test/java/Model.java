import java.util.ArrayList;
import java.util.HashMap;
import java.util.HashSet;
import java.util.List;
import java.util.Map;
import java.util.Set;
import java.util.TreeMap;

/**
 * The document told a second time, as slowly and as differently as possible: a replica keeps only
 * the entries that it has executed, and its state is made anew from them whenever it is asked for.
 */
final class Model {
    static final long NONE = 1099511627776L;

    record Operation(int kind, int key, int v) { }

    record Entry(String kind, int t) { }

    static final class Transaction {
        final List<Operation> operations = new ArrayList<>();
        boolean closed;

        Set<Integer> shards() {
            Set<Integer> shards = new HashSet<>();
            for (Operation operation : operations) {
                shards.add(operation.key() % 3);
            }
            return shards;
        }
    }

    static final class Replica {
        boolean up = true;
        int view;
        List<Entry> log = new ArrayList<>();
        final List<Entry> ran = new ArrayList<>();
    }

    static final class Shard {
        final Map<Integer, Integer> values = new HashMap<>();
        /** Of each transaction the keys that it holds, true for those that it holds alone. */
        final Map<Integer, Map<Integer, Boolean>> held = new HashMap<>();
        final Map<Integer, Boolean> voted = new HashMap<>();
        final Map<Integer, Map<Integer, Integer>> noted = new HashMap<>();
        final Set<Integer> finished = new HashSet<>();
    }

    final List<Transaction> transactions = new ArrayList<>();
    final Replica[][] replicas = new Replica[4][3];
    boolean coordinatorUp = true;
    final Map<List<Integer>, Boolean> knownVotes = new HashMap<>();
    final Map<Integer, String> knownDecisions = new HashMap<>();
    final Map<List<Integer>, Integer> knownResults = new HashMap<>();
    /** What no run should reach, if one has reached it: the document leaves open what is due then. */
    String broken;

    Model() {
        for (Replica[] group : replicas) {
            for (int r = 0; r < 3; r++) {
                group[r] = new Replica();
            }
        }
    }

    // ---- states

    private Map<Integer, Boolean> needs(int t, int s) {
        Map<Integer, Boolean> needs = new HashMap<>();
        for (Operation operation : transactions.get(t - 1).operations) {
            if (operation.key() % 3 == s) {
                needs.merge(operation.key(), operation.kind() != 0, (a, b) -> a || b);
            }
        }
        return needs;
    }

    private Map<Integer, Integer> run(int t, int s, Map<Integer, Integer> values) {
        Map<Integer, Integer> results = new HashMap<>();
        List<Operation> operations = transactions.get(t - 1).operations;
        for (int i = 0; i < operations.size(); i++) {
            Operation operation = operations.get(i);
            if (operation.key() % 3 != s) {
                continue;
            }
            int old = values.getOrDefault(operation.key(), 0);
            switch (operation.kind()) {
                case 0 -> results.put(i, old);
                case 1 -> {
                    results.put(i, old);
                    values.put(operation.key(), operation.v());
                }
                default -> {
                    results.put(i, old + operation.v());
                    values.put(operation.key(), old + operation.v());
                }
            }
        }
        return results;
    }

    private boolean conflict(Shard state, int t, Map<Integer, Boolean> needs) {
        for (Map.Entry<Integer, Map<Integer, Boolean>> other : state.held.entrySet()) {
            if (other.getKey() == t) {
                continue;
            }
            for (Map.Entry<Integer, Boolean> need : needs.entrySet()) {
                Boolean theirs = other.getValue().get(need.getKey());
                if (theirs != null && (theirs || need.getValue())) {
                    return true;
                }
            }
        }
        return false;
    }

    private Shard shard(int s, int r) {
        Shard state = new Shard();
        for (Entry entry : replicas[s][r].ran) {
            int t = entry.t();
            if (state.finished.contains(t)) {
                continue;
            }
            if (entry.kind().equals("PREPARE")) {
                if (!state.voted.containsKey(t)) {
                    Map<Integer, Boolean> needs = needs(t, s);
                    boolean yes = !conflict(state, t, needs);
                    state.voted.put(t, yes);
                    if (yes) {
                        state.held.put(t, needs);
                        state.noted.put(t, run(t, s, new HashMap<>(state.values)));
                    }
                }
                continue;
            }
            if (entry.kind().equals("COMMIT")) {
                commit(state, t, s);
            } else {
                state.voted.putIfAbsent(t, false);
            }
            state.held.remove(t);
            state.finished.add(t);
        }
        return state;
    }

    private void commit(Shard state, int t, int s) {
        if (!state.voted.getOrDefault(t, false)) {
            broken = "a COMMIT without a vote YES";
        } else if (!run(t, s, state.values).equals(state.noted.get(t))) {
            broken = "a COMMIT with other results than the noted ones";
        }
    }

    private Map<Integer, String> decisions(int r) {
        Map<Integer, String> decisions = new HashMap<>();
        for (Entry entry : replicas[3][r].ran) {
            decisions.putIfAbsent(entry.t(), entry.kind());
        }
        return decisions;
    }

    /** All that later answers depend on, in one text. */
    String told() {
        StringBuilder text = new StringBuilder();
        text.append(coordinatorUp).append(new TreeMap<>(knownDecisions));
        for (int t = 1; t <= transactions.size(); t++) {
            Transaction transaction = transactions.get(t - 1);
            text.append(transaction.closed).append(transaction.operations);
            for (int n = 0; n < 4; n++) {
                text.append(knownVotes.get(List.of(t, n))).append(knownResults.get(List.of(t, n)));
            }
        }
        for (Replica[] group : replicas) {
            for (Replica replica : group) {
                text.append(replica.up).append(replica.view).append(replica.log).append(replica.ran.size());
            }
        }
        return text.toString();
    }

    // ---- groups

    private List<Replica> up(int g) {
        List<Replica> up = new ArrayList<>();
        for (Replica replica : replicas[g]) {
            if (replica.up) {
                up.add(replica);
            }
        }
        return up;
    }

    private void exchange(Replica replica, int view, List<Entry> log) {
        replica.view = view;
        replica.log = new ArrayList<>(log);
        if (log.size() < replica.ran.size() || !log.subList(0, replica.ran.size()).equals(replica.ran)) {
            broken = "a log lacks what the replica has executed";
        }
    }

    private void execute(int g) {
        for (Replica replica : up(g)) {
            for (int i = replica.ran.size(); i < replica.log.size(); i++) {
                replica.ran.add(replica.log.get(i));
            }
        }
    }

    private int log(int g, String kind, int t) {
        int leader = leader(g);
        if (leader == -1) {
            return -3;
        }
        Replica first = replicas[g][leader];
        if (first.log.size() == 60) {
            return -4;
        }
        first.log.add(new Entry(kind, t));
        for (Replica replica : up(g)) {
            exchange(replica, first.view, first.log);
        }
        if (up(g).size() == 1) {
            return -5;
        }
        execute(g);
        return 0;
    }

    // ---- the face

    private boolean has(int t) {
        return t >= 1 && t <= transactions.size();
    }

    private boolean has(int g, int r) {
        return g >= 0 && g <= 3 && r >= 0 && r <= 2;
    }

    int open() {
        if (transactions.size() == 20) {
            return -1;
        }
        transactions.add(new Transaction());
        return transactions.size();
    }

    boolean touch(int t, int kind, int key, int v) {
        if (!has(t) || kind < 0 || kind > 2 || key < 0 || key > 11) {
            return false;
        }
        Transaction transaction = transactions.get(t - 1);
        if (transaction.closed || transaction.operations.size() == 4) {
            return false;
        }
        transaction.operations.add(new Operation(kind, key, v));
        return true;
    }

    int prepare(int t, int s, boolean back) {
        if (!has(t) || !transactions.get(t - 1).shards().contains(s)) {
            return -1;
        }
        if (!coordinatorUp) {
            return -2;
        }
        transactions.get(t - 1).closed = true;
        int leader = leader(s);
        if (leader == -1) {
            return -3;
        }
        if (!shard(s, leader).voted.containsKey(t)) {
            int logged = log(s, "PREPARE", t);
            if (logged < 0) {
                return logged;
            }
        }
        if (!back) {
            return 3;
        }
        Shard state = shard(s, leader);
        boolean yes = state.voted.get(t);
        knownVotes.put(List.of(t, s), yes);
        if (yes) {
            state.noted.get(t).forEach((i, result) -> knownResults.put(List.of(t, i), result));
        }
        return yes ? 1 : 2;
    }

    private int number(String decision) {
        return decision.equals("COMMIT") ? 1 : 2;
    }

    private int propose(String kind, int t, boolean back) {
        int leader = leader(3);
        if (leader == -1) {
            return -3;
        }
        if (!decisions(leader).containsKey(t)) {
            int logged = log(3, kind, t);
            if (logged < 0) {
                return logged;
            }
        }
        if (!back) {
            return 3;
        }
        knownDecisions.put(t, decisions(leader).get(t));
        return number(knownDecisions.get(t));
    }

    int decide(int t, boolean back) {
        if (!has(t) || transactions.get(t - 1).operations.isEmpty()) {
            return -1;
        }
        if (!coordinatorUp) {
            return -2;
        }
        if (knownDecisions.containsKey(t)) {
            return number(knownDecisions.get(t));
        }
        int yes = 0;
        for (int s = 0; s < 3; s++) {
            Boolean known = knownVotes.get(List.of(t, s));
            if (known != null && !known) {
                return propose("ABORT", t, back);
            }
            yes += known != null ? 1 : 0;
        }
        if (yes == transactions.get(t - 1).shards().size()) {
            return propose("COMMIT", t, back);
        }
        return 0;
    }

    int timeout(int t, boolean back) {
        if (!has(t) || transactions.get(t - 1).operations.isEmpty()) {
            return -1;
        }
        if (!coordinatorUp) {
            return -2;
        }
        transactions.get(t - 1).closed = true;
        if (knownDecisions.containsKey(t)) {
            return number(knownDecisions.get(t));
        }
        return propose("ABORT", t, back);
    }

    int finish(int t, int s) {
        if (!has(t) || !transactions.get(t - 1).shards().contains(s)) {
            return -1;
        }
        if (!coordinatorUp) {
            return -2;
        }
        if (!knownDecisions.containsKey(t)) {
            return 0;
        }
        int leader = leader(s);
        if (leader == -1) {
            return -3;
        }
        if (shard(s, leader).finished.contains(t)) {
            return 1;
        }
        int logged = log(s, knownDecisions.get(t), t);
        return logged < 0 ? logged : 1;
    }

    int vote(int t, int s) {
        Boolean known = knownVotes.get(List.of(t, s));
        return known == null ? 0 : known ? 1 : 2;
    }

    int outcome(int t) {
        return knownDecisions.containsKey(t) ? number(knownDecisions.get(t)) : 0;
    }

    long result(int t, int i) {
        if (outcome(t) != 1 || i < 0 || i >= transactions.get(t - 1).operations.size()) {
            return NONE;
        }
        int s = transactions.get(t - 1).operations.get(i).key() % 3;
        return vote(t, s) == 1 ? knownResults.get(List.of(t, i)) : NONE;
    }

    boolean crash(int g, int r) {
        if (!has(g, r) || !replicas[g][r].up) {
            return false;
        }
        replicas[g][r].up = false;
        return true;
    }

    boolean restart(int g, int r) {
        if (!has(g, r) || replicas[g][r].up) {
            return false;
        }
        replicas[g][r].up = true;
        return true;
    }

    int elect(int g) {
        if (!has(g, 0) || up(g).size() < 2) {
            return -1;
        }
        Replica best = null;
        for (Replica replica : up(g)) {
            if (best == null || replica.view > best.view
                    || replica.view == best.view && replica.log.size() > best.log.size()) {
                best = replica;
            }
        }
        int view = best.view + 1;
        while (!replicas[g][view % 3].up) {
            view++;
        }
        List<Entry> log = best.log;
        for (Replica replica : up(g)) {
            exchange(replica, view, log);
        }
        execute(g);
        return view;
    }

    boolean halt() {
        if (!coordinatorUp) {
            return false;
        }
        coordinatorUp = false;
        knownVotes.clear();
        knownDecisions.clear();
        knownResults.clear();
        return true;
    }

    boolean resume() {
        if (coordinatorUp) {
            return false;
        }
        coordinatorUp = true;
        return true;
    }

    int leader(int g) {
        if (!has(g, 0) || up(g).isEmpty()) {
            return -1;
        }
        int view = up(g).stream().mapToInt(replica -> replica.view).max().getAsInt();
        return replicas[g][view % 3].up ? view % 3 : -1;
    }

    int view(int g, int r) {
        return has(g, r) ? replicas[g][r].view : -1;
    }

    int length(int g, int r) {
        return has(g, r) ? replicas[g][r].log.size() : -1;
    }

    int executed(int g, int r) {
        return has(g, r) ? replicas[g][r].ran.size() : -1;
    }

    int value(int key, int r) {
        if (key < 0 || key > 11 || r < 0 || r > 2) {
            return 0;
        }
        return shard(key % 3, r).values.getOrDefault(key, 0);
    }

    int holds(int key, int r) {
        if (key < 0 || key > 11 || r < 0 || r > 2) {
            return 0;
        }
        int sharing = 0;
        for (Map.Entry<Integer, Map<Integer, Boolean>> holder : shard(key % 3, r).held.entrySet()) {
            Boolean alone = holder.getValue().get(key);
            if (alone != null && alone) {
                return holder.getKey();
            }
            sharing += alone != null ? 1 : 0;
        }
        return -sharing;
    }
}
