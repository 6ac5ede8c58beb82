import java.util.Arrays;

/**
 * Transactions over keys that lie in three shards. Each shard is a group of three replicas with one
 * log; a coordinator asks the shards for votes, and a fourth group keeps the decisions.
 */
public final class CommitGroups {
    public static final long NONE = 1L << 40;

    private static final int TRANSACTIONS = 20;
    private static final int OPERATIONS = 4;
    private static final int KEYS = 12;
    private static final int SHARDS = 3;
    private static final int KEYS_OF_SHARD = KEYS / SHARDS;
    private static final int GROUPS = 4;
    private static final int DECISION_GROUP = 3;
    private static final int REPLICAS = 3;
    private static final int LOG_LIMIT = 60;

    private static final int READ = 0;
    private static final int PUT = 1;
    private static final int ADD = 2;

    // What a transaction needs of a key: the greater need covers the smaller one.
    private static final int NOTHING = 0;
    private static final int SHARED = 1;
    private static final int ALONE = 2;

    // Kinds of log entries. A decision is COMMIT or ABORT, and the calls answer it as it is.
    private static final int PREPARE = 0;
    private static final int COMMIT = 1;
    private static final int ABORT = 2;
    private static final int ENTRY_KINDS = 3;

    private static final int YES = 1;
    private static final int NO = 2;

    private static final int UNKNOWN = 0;
    private static final int NOT_BACK = 3;
    private static final int DONE = 1;

    private static final int FINE = 0;
    private static final int NO_SUCH = -1;
    private static final int COORDINATOR_DOWN = -2;
    private static final int NO_LEADER = -3;
    private static final int LOG_FULL = -4;
    private static final int LEADER_ALONE = -5;

    // Element 0 stays unused, so that a transaction's number is its index.
    private final Transaction[] transactions;
    private final Group[] groups;
    private final ShardState[] shardStates;
    private final DecisionState[] decisionStates;
    private final Coordinator coordinator;
    private int opened;

    public CommitGroups() {
        Transaction[] book = new Transaction[TRANSACTIONS + 1];
        for (int t = 0; t <= TRANSACTIONS; t++) {
            book[t] = new Transaction();
        }
        transactions = book;
        groups = new Group[GROUPS];
        shardStates = new ShardState[SHARDS * REPLICAS];
        decisionStates = new DecisionState[REPLICAS];
        coordinator = new Coordinator();
        opened = 0;
        for (int s = 0; s < SHARDS; s++) {
            Replica[] replicas = new Replica[REPLICAS];
            for (int r = 0; r < REPLICAS; r++) {
                ShardState state = new ShardState(s, book);
                shardStates[s * REPLICAS + r] = state;
                replicas[r] = new Replica(state);
            }
            groups[s] = new Group(replicas);
        }
        Replica[] keepers = new Replica[REPLICAS];
        for (int r = 0; r < REPLICAS; r++) {
            DecisionState state = new DecisionState();
            decisionStates[r] = state;
            keepers[r] = new Replica(state);
        }
        groups[DECISION_GROUP] = new Group(keepers);
    }

    public int open() {
        if (opened >= TRANSACTIONS) {
            return NO_SUCH;
        }
        opened++;
        return opened;
    }

    public boolean touch(int t, int kind, int key, int v) {
        if (!isTransaction(t) || kind < READ || kind > ADD || !isKey(key)) {
            return false;
        }
        return transactions[t].addOperation(kind, key, v);
    }

    public int prepare(int t, int s, boolean back) {
        int refusal = refusalAtShard(t, s);
        if (refusal != FINE) {
            return refusal;
        }
        Transaction transaction = transactions[t];
        transaction.closed = true;
        int first = groups[s].findLeader();
        if (first < 0) {
            return NO_LEADER;
        }
        ShardState state = shardStates[s * REPLICAS + first];
        if (state.votes[t] == UNKNOWN) {
            int failure = groups[s].log(entry(PREPARE, t));
            if (failure != FINE) {
                return failure;
            }
        }
        if (!back) {
            return NOT_BACK;
        }
        coordinator.learnVote(t, transaction, state);
        return state.votes[t];
    }

    public int decide(int t, boolean back) {
        int refusal = refusalOfDecision(t);
        if (refusal != FINE) {
            return refusal;
        }
        if (coordinator.decisions[t] != UNKNOWN) {
            return coordinator.decisions[t];
        }
        if (coordinator.knowsNo(t)) {
            return propose(ABORT, t, back);
        }
        if (coordinator.knowsAllVotes(t, transactions[t])) {
            return propose(COMMIT, t, back);
        }
        return UNKNOWN;
    }

    public int timeout(int t, boolean back) {
        int refusal = refusalOfDecision(t);
        if (refusal != FINE) {
            return refusal;
        }
        transactions[t].closed = true;
        if (coordinator.decisions[t] != UNKNOWN) {
            return coordinator.decisions[t];
        }
        return propose(ABORT, t, back);
    }

    public int finish(int t, int s) {
        int refusal = refusalAtShard(t, s);
        if (refusal != FINE) {
            return refusal;
        }
        int decision = coordinator.decisions[t];
        if (decision == UNKNOWN) {
            return UNKNOWN;
        }
        int first = groups[s].findLeader();
        if (first < 0) {
            return NO_LEADER;
        }
        if (shardStates[s * REPLICAS + first].finished[t]) {
            return DONE;
        }
        int failure = groups[s].log(entry(decision, t));
        return failure == FINE ? DONE : failure;
    }

    public int vote(int t, int s) {
        if (!isTransaction(t) || !isShard(s)) {
            return UNKNOWN;
        }
        return coordinator.votes[t * SHARDS + s];
    }

    public int outcome(int t) {
        if (!isTransaction(t)) {
            return UNKNOWN;
        }
        return coordinator.decisions[t];
    }

    public long result(int t, int i) {
        if (!isTransaction(t) || i < 0 || i >= transactions[t].operations) {
            return NONE;
        }
        int shard = transactions[t].keys[i] % SHARDS;
        if (coordinator.decisions[t] != COMMIT || coordinator.votes[t * SHARDS + shard] != YES) {
            return NONE;
        }
        return coordinator.results[t * OPERATIONS + i];
    }

    public boolean crash(int g, int r) {
        if (!isReplica(g, r) || !groups[g].replicas[r].up) {
            return false;
        }
        groups[g].replicas[r].up = false;
        return true;
    }

    public boolean restart(int g, int r) {
        if (!isReplica(g, r) || groups[g].replicas[r].up) {
            return false;
        }
        groups[g].replicas[r].up = true;
        return true;
    }

    public int elect(int g) {
        if (!isGroup(g) || groups[g].countUp() < 2) {
            return NO_SUCH;
        }
        return groups[g].startView();
    }

    public boolean halt() {
        if (!coordinator.up) {
            return false;
        }
        coordinator.up = false;
        coordinator.forget();
        return true;
    }

    public boolean resume() {
        if (coordinator.up) {
            return false;
        }
        coordinator.up = true;
        return true;
    }

    public int leader(int g) {
        return isGroup(g) ? groups[g].findLeader() : NO_SUCH;
    }

    public int view(int g, int r) {
        return isReplica(g, r) ? groups[g].replicas[r].view : NO_SUCH;
    }

    public int length(int g, int r) {
        return isReplica(g, r) ? groups[g].replicas[r].entries : NO_SUCH;
    }

    public int executed(int g, int r) {
        return isReplica(g, r) ? groups[g].replicas[r].done : NO_SUCH;
    }

    public int value(int key, int r) {
        if (!isKey(key) || !isReplicaNumber(r)) {
            return 0;
        }
        return shardStates[key % SHARDS * REPLICAS + r].values[key / SHARDS];
    }

    public int holds(int key, int r) {
        if (!isKey(key) || !isReplicaNumber(r)) {
            return 0;
        }
        return shardStates[key % SHARDS * REPLICAS + r].holderOf(key / SHARDS);
    }

    private boolean isTransaction(int t) {
        return t >= 1 && t <= opened;
    }

    private static boolean isKey(int key) {
        return key >= 0 && key < KEYS;
    }

    private static boolean isShard(int s) {
        return s >= 0 && s < SHARDS;
    }

    private static boolean isGroup(int g) {
        return g >= 0 && g < GROUPS;
    }

    private static boolean isReplicaNumber(int r) {
        return r >= 0 && r < REPLICAS;
    }

    private static boolean isReplica(int g, int r) {
        return isGroup(g) && isReplicaNumber(r);
    }

    // An entry is one number, so that a log is one row and is exchanged by one copy.
    private static int entry(int kind, int t) {
        return t * ENTRY_KINDS + kind;
    }

    private int refusalAtShard(int t, int s) {
        if (!isTransaction(t) || !isShard(s) || !transactions[t].reaches(s)) {
            return NO_SUCH;
        }
        return coordinator.up ? FINE : COORDINATOR_DOWN;
    }

    private int refusalOfDecision(int t) {
        if (!isTransaction(t) || transactions[t].operations == 0) {
            return NO_SUCH;
        }
        return coordinator.up ? FINE : COORDINATOR_DOWN;
    }

    private int propose(int wanted, int t, boolean back) {
        Group group = groups[DECISION_GROUP];
        int first = group.findLeader();
        if (first < 0) {
            return NO_LEADER;
        }
        DecisionState state = decisionStates[first];
        if (state.decisions[t] == UNKNOWN) {
            int failure = group.log(entry(wanted, t));
            if (failure != FINE) {
                return failure;
            }
        }
        if (!back) {
            return NOT_BACK;
        }
        // Not what was wanted: an older entry of the log may have decided before this one.
        coordinator.decisions[t] = state.decisions[t];
        return state.decisions[t];
    }

    private static final class Transaction {
        final int[] kinds = new int[OPERATIONS];
        final int[] keys = new int[OPERATIONS];
        final int[] amounts = new int[OPERATIONS];
        final int[] needs = new int[KEYS];
        int operations;
        boolean closed;

        boolean addOperation(int kind, int key, int amount) {
            if (closed || operations >= OPERATIONS) {
                return false;
            }
            kinds[operations] = kind;
            keys[operations] = key;
            amounts[operations] = amount;
            operations++;
            needs[key] = Math.max(needs[key], kind == READ ? SHARED : ALONE);
            return true;
        }

        boolean reaches(int shard) {
            for (int i = 0; i < operations; i++) {
                if (keys[i] % SHARDS == shard) {
                    return true;
                }
            }
            return false;
        }
    }

    private abstract static class State {
        abstract void execute(int kind, int t);
    }

    private static final class ShardState extends State {
        final int shard;
        final Transaction[] transactions;
        final int[] values = new int[KEYS_OF_SHARD];
        final int[] tried = new int[KEYS_OF_SHARD];
        final int[] aloneBy = new int[KEYS_OF_SHARD];
        // Bit t is set while transaction t holds the key shared.
        final int[] sharedBy = new int[KEYS_OF_SHARD];
        final int[] votes = new int[TRANSACTIONS + 1];
        final boolean[] finished = new boolean[TRANSACTIONS + 1];
        final int[] noted = new int[(TRANSACTIONS + 1) * OPERATIONS];

        ShardState(int shard, Transaction[] transactions) {
            this.shard = shard;
            this.transactions = transactions;
        }

        void execute(int kind, int t) {
            if (finished[t]) {
                return;
            }
            if (kind == PREPARE) {
                castVote(t);
            } else if (kind == COMMIT) {
                doOperations(t, values);
                release(t);
            } else {
                refuseUnvoted(t);
                release(t);
            }
        }

        int holderOf(int slot) {
            return aloneBy[slot] != 0 ? aloneBy[slot] : -Integer.bitCount(sharedBy[slot]);
        }

        private void castVote(int t) {
            if (votes[t] != UNKNOWN) {
                return;
            }
            if (isHindered(t)) {
                votes[t] = NO;
                return;
            }
            votes[t] = YES;
            takeKeys(t);
            System.arraycopy(values, 0, tried, 0, KEYS_OF_SHARD);
            doOperations(t, tried);
        }

        private boolean isHindered(int t) {
            for (int slot = 0; slot < KEYS_OF_SHARD; slot++) {
                int need = transactions[t].needs[slot * SHARDS + shard];
                boolean othersAlone = aloneBy[slot] != 0 && aloneBy[slot] != t;
                boolean othersShared = (sharedBy[slot] & ~(1 << t)) != 0;
                if (need != NOTHING && othersAlone || need == ALONE && othersShared) {
                    return true;
                }
            }
            return false;
        }

        private void takeKeys(int t) {
            for (int slot = 0; slot < KEYS_OF_SHARD; slot++) {
                int need = transactions[t].needs[slot * SHARDS + shard];
                if (need == ALONE) {
                    aloneBy[slot] = t;
                } else if (need == SHARED) {
                    sharedBy[slot] |= 1 << t;
                }
            }
        }

        // A commit notes what the vote has noted: the keys were held in between.
        private void doOperations(int t, int[] cells) {
            Transaction transaction = transactions[t];
            for (int i = 0; i < transaction.operations; i++) {
                if (transaction.keys[i] % SHARDS == shard) {
                    int slot = transaction.keys[i] / SHARDS;
                    int before = cells[slot];
                    if (transaction.kinds[i] == PUT) {
                        cells[slot] = transaction.amounts[i];
                    } else if (transaction.kinds[i] == ADD) {
                        cells[slot] = before + transaction.amounts[i];
                    }
                    noted[t * OPERATIONS + i] = transaction.kinds[i] == ADD ? cells[slot] : before;
                }
            }
        }

        private void refuseUnvoted(int t) {
            if (votes[t] == UNKNOWN) {
                votes[t] = NO;
            }
        }

        private void release(int t) {
            for (int slot = 0; slot < KEYS_OF_SHARD; slot++) {
                if (aloneBy[slot] == t) {
                    aloneBy[slot] = 0;
                }
                sharedBy[slot] &= ~(1 << t);
            }
            finished[t] = true;
        }
    }

    private static final class DecisionState extends State {
        final int[] decisions = new int[TRANSACTIONS + 1];

        void execute(int kind, int t) {
            if (decisions[t] == UNKNOWN) {
                decisions[t] = kind;
            }
        }
    }

    private static final class Replica {
        final State state;
        final int[] log = new int[LOG_LIMIT];
        boolean up = true;
        int view;
        int entries;
        int done;

        Replica(State state) {
            this.state = state;
        }

        void append(int entry) {
            if (entries < LOG_LIMIT) {
                log[entries] = entry;
                entries++;
            }
        }

        void copyLog(Replica from) {
            System.arraycopy(from.log, 0, log, 0, from.entries);
            entries = from.entries;
        }

        void catchUp() {
            while (done < entries) {
                state.execute(log[done] % ENTRY_KINDS, log[done] / ENTRY_KINDS);
                done++;
            }
        }
    }

    private static final class Group {
        final Replica[] replicas;

        Group(Replica[] replicas) {
            this.replicas = replicas;
        }

        int countUp() {
            int count = 0;
            for (int r = 0; r < REPLICAS; r++) {
                if (replicas[r].up) {
                    count++;
                }
            }
            return count;
        }

        int findLeader() {
            int candidate = Math.floorMod(greatestView(), REPLICAS);
            return replicas[candidate].up ? candidate : NO_SUCH;
        }

        /** Puts the entry into the group's log: FINE, or why it failed. */
        int log(int entry) {
            int first = findLeader();
            if (first < 0) {
                return NO_LEADER;
            }
            Replica leading = replicas[first];
            if (leading.entries >= LOG_LIMIT) {
                return LOG_FULL;
            }
            leading.append(entry);
            if (countUp() < 2) {
                return LEADER_ALONE;
            }
            spread(leading, leading.view);
            return FINE;
        }

        /** Only for a group of which two or three are up: the new view. */
        int startView() {
            int next = nextView();
            spread(replicas[bestLog()], next);
            return next;
        }

        private int greatestView() {
            int greatest = 0;
            for (int r = 0; r < REPLICAS; r++) {
                if (replicas[r].up) {
                    greatest = Math.max(greatest, replicas[r].view);
                }
            }
            return greatest;
        }

        private int nextView() {
            int next = greatestView() + 1;
            for (int step = 1; step < REPLICAS && !replicas[Math.floorMod(next, REPLICAS)].up; step++) {
                next++;
            }
            return next;
        }

        private int bestLog() {
            int greatest = greatestView();
            int best = 0;
            int most = -1;
            for (int r = 0; r < REPLICAS; r++) {
                if (replicas[r].up && replicas[r].view == greatest && replicas[r].entries > most) {
                    best = r;
                    most = replicas[r].entries;
                }
            }
            return best;
        }

        private void spread(Replica source, int view) {
            for (int r = 0; r < REPLICAS; r++) {
                Replica replica = replicas[r];
                if (replica.up) {
                    if (replica != source) {
                        replica.copyLog(source);
                    }
                    replica.view = view;
                    replica.catchUp();
                }
            }
        }
    }

    private static final class Coordinator {
        boolean up = true;
        final int[] votes = new int[(TRANSACTIONS + 1) * SHARDS];
        final int[] decisions = new int[TRANSACTIONS + 1];
        final int[] results = new int[(TRANSACTIONS + 1) * OPERATIONS];

        // The results need no clearing: they count only beside a vote that is known.
        void forget() {
            Arrays.fill(votes, UNKNOWN);
            Arrays.fill(decisions, UNKNOWN);
        }

        void learnVote(int t, Transaction transaction, ShardState state) {
            votes[t * SHARDS + state.shard] = state.votes[t];
            for (int i = 0; i < transaction.operations; i++) {
                if (transaction.keys[i] % SHARDS == state.shard) {
                    results[t * OPERATIONS + i] = state.noted[t * OPERATIONS + i];
                }
            }
        }

        boolean knowsNo(int t) {
            for (int s = 0; s < SHARDS; s++) {
                if (votes[t * SHARDS + s] == NO) {
                    return true;
                }
            }
            return false;
        }

        boolean knowsAllVotes(int t, Transaction transaction) {
            for (int s = 0; s < SHARDS; s++) {
                if (transaction.reaches(s) && votes[t * SHARDS + s] == UNKNOWN) {
                    return false;
                }
            }
            return true;
        }
    }
}
