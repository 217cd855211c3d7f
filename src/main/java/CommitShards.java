import java.util.Arrays;

/**
 * A store of keys that lie in several shards, changed by transactions that are wholly done or not at all.
 * The document ../shared/DOC.md tells what each member promises; its words are used here as they stand there.
 */
public final class CommitShards {
    public static final int BAD = -1;

    private static final int IDLE = 0;
    private static final int ACTIVE = 1;
    private static final int ASKED = 2;
    private static final int COMMITTED = 3;
    private static final int ABORTED = 4;

    private static final int YES = 1;
    private static final int NO = 2;

    private static final int SHARED = 1;
    private static final int EXCLUSIVE = 2;

    private static final int NOT_ACTIVE = 0;
    private static final int DONE = 1;
    private static final int LOCK_NOT_GRANTED = 2;
    private static final int SHARD_DOWN = 3;
    private static final int SESSION_GONE = 4;

    private static final int MESSAGE_PREPARE = 1;
    private static final int MESSAGE_VOTE = 2;
    private static final int MESSAGE_ACCEPTED = 3;
    private static final int MESSAGE_ASK = 4;
    private static final int MESSAGE_PROMISE = 5;
    private static final int MESSAGE_END = 6;
    private static final int NODE_WAS_DOWN = 9;
    private static final int NODE_WAS_MUTE = 10;

    private static final int ENTRY_VOTED = 1;
    private static final int ENTRY_DECIDED = 2;
    private static final int ENTRY_PROMISED = 3;
    private static final int ENTRY_ACCEPTED = 4;

    private static final int MOST_PLAYED = 400;
    private static final int LOW_31_BITS = 0x7fffffff;
    private static final long PLAY_FACTOR = 6364136223846793005L;
    private static final long PLAY_STEP = 1442695040888963407L;

    private final Sizes sizes;
    private final Txns txns;
    private final Keys keys;
    private final Pool pool;
    private final Shard[] shardNodes;
    private final Acceptor[] acceptorNodes;
    private int latestRead;
    private int delivered;

    public CommitShards(int shards, int acceptors, int txns, int keys, int pool, int log) {
        this.sizes = new Sizes(shards, acceptors, txns, keys, pool, log);
        this.txns = new Txns(this.sizes);
        this.keys = new Keys(this.sizes);
        this.pool = new Pool(this.sizes);
        this.shardNodes = new Shard[this.sizes.shards];
        for (int s = 0; s < this.shardNodes.length; s++) {
            this.shardNodes[s] = new Shard(s, this.sizes, this.keys, this.pool);
        }
        this.acceptorNodes = new Acceptor[this.sizes.acceptors];
        for (int a = 0; a < this.acceptorNodes.length; a++) {
            this.acceptorNodes[a] = new Acceptor(a, this.sizes, this.txns, this.pool);
        }
    }

    // ---- transactions

    public int begin(int txn) {
        if (!isTxn(txn)) {
            return BAD;
        }
        if (txns.states[txn] != IDLE) {
            return 0;
        }
        txns.states[txn] = ACTIVE;
        return 1;
    }

    public long read(int txn, int key) {
        latestRead = access(txn, key, SHARED);
        return latestRead == DONE ? keys.seenBy(txn, key) : 0L;
    }

    public int readStatus() {
        return latestRead;
    }

    public int write(int txn, int key, long value) {
        int status = access(txn, key, EXCLUSIVE);
        if (status == DONE) {
            keys.renew(txn, key, value);
        }
        return status;
    }

    public int requestCommit(int txn) {
        if (!isTxn(txn)) {
            return BAD;
        }
        if (txns.states[txn] != ACTIVE) {
            return 0;
        }
        txns.states[txn] = txns.touchesNone(txn) ? COMMITTED : ASKED;
        pool.startDraft(MESSAGE_PREPARE, txn, sizes.client());
        int asked = 0;
        for (int s = 0; s < sizes.shards; s++) {
            if (txns.touches(txn, s)) {
                pool.post(pool.draft, s);
                asked++;
            }
        }
        return asked;
    }

    public int abort(int txn) {
        if (!isTxn(txn)) {
            return BAD;
        }
        if (txns.states[txn] != ACTIVE) {
            return 0;
        }
        txns.states[txn] = ABORTED;
        for (Shard shard : shardNodes) {
            if (shard.up) {
                shard.endSession(txn);
            }
        }
        return 1;
    }

    public int outcome(int txn) {
        return isTxn(txn) ? txns.states[txn] : BAD;
    }

    public long committedValue(int key) {
        return isKey(key) ? keys.values[key] : 0L;
    }

    // ---- messages and nodes

    public int deliver(int i) {
        return pool.has(i) ? handOver(i) : BAD;
    }

    public int drop(int i) {
        return pool.has(i) ? pool.take(i).kind : BAD;
    }

    public int twice(int i) {
        if (!pool.has(i)) {
            return BAD;
        }
        Message m = pool.queue[i];
        return pool.post(m, m.to) ? pool.waiting : 0;
    }

    public int timeout(int node, int txn) {
        Acceptor acceptor = acceptorAt(node);
        if (acceptor == null || !isTxn(txn)) {
            return BAD;
        }
        int state = txns.states[txn];
        if (state == IDLE || state == ACTIVE || txns.touchesNone(txn)) {
            return 0;
        }
        return acceptor.takeOver(txn);
    }

    public int crash(int node) {
        Node fallen = nodeAt(node);
        if (fallen == null) {
            return BAD;
        }
        if (!fallen.up) {
            return 0;
        }
        fallen.up = false;
        fallen.forget();
        return 1;
    }

    public int restart(int node) {
        Node risen = nodeAt(node);
        if (risen == null) {
            return BAD;
        }
        if (risen.up) {
            return 0;
        }
        risen.up = true;
        return 1;
    }

    public int pending() {
        return pool.waiting;
    }

    public int play(long seed, int n) {
        if (n < 0 || n > MOST_PLAYED) {
            return BAD;
        }
        long x = seed;
        int played = 0;
        while (played < n && pool.waiting > 0) {
            x = x * PLAY_FACTOR + PLAY_STEP;
            int bits = (int) (x >>> 32) & LOW_31_BITS;
            handOver(bits % pool.waiting);
            played++;
        }
        return played;
    }

    // ---- what is told

    public int message(int i, int what) {
        return pool.has(i) ? pool.queue[i].told(what) : BAD;
    }

    public int lock(int key, int what) {
        if (!isKey(key)) {
            return BAD;
        }
        switch (what) {
            case 0:
                return keys.holders(key);
            case 1:
                return keys.leastHolder(key);
            case 2:
                return keys.isExclusive(key) ? 1 : 0;
            default:
                return BAD;
        }
    }

    public int node(int node, int what) {
        Node asked = nodeAt(node);
        if (asked == null) {
            return BAD;
        }
        switch (what) {
            case 0:
                return asked.up ? 1 : 0;
            case 1:
                return asked.log.length;
            default:
                return asked.told(what);
        }
    }

    public int entry(int node, int i, int what) {
        Node asked = nodeAt(node);
        return asked == null ? BAD : asked.log.told(i, what);
    }

    public int ballot(int node, int txn, int what) {
        Acceptor acceptor = acceptorAt(node);
        if (acceptor == null || !isTxn(txn)) {
            return BAD;
        }
        return acceptor.views[txn].toldOfBallot(what);
    }

    public int accepted(int node, int txn, int shard, int what) {
        Acceptor acceptor = acceptorAt(node);
        if (acceptor == null || !isTxn(txn) || shard < 0 || shard >= sizes.shards) {
            return BAD;
        }
        return acceptor.views[txn].toldOfShard(shard, what);
    }

    public int count(int what) {
        switch (what) {
            case 0:
                return pool.posted;
            case 1:
                return pool.lost;
            case 2:
                return delivered;
            case 3:
                return txns.in(COMMITTED);
            case 4:
                return txns.in(ABORTED);
            case 5:
                return sizes.shards;
            case 6:
                return sizes.acceptors;
            case 7:
                return sizes.txns;
            case 8:
                return sizes.keys;
            default:
                return BAD;
        }
    }

    // ---- what the calls share

    private boolean isTxn(int txn) {
        return txn >= 0 && txn < sizes.txns;
    }

    private boolean isKey(int key) {
        return key >= 0 && key < sizes.keys;
    }

    private Acceptor acceptorAt(int node) {
        return node >= sizes.shards && node < sizes.client() ? acceptorNodes[node - sizes.shards] : null;
    }

    private Node nodeAt(int node) {
        if (node >= 0 && node < sizes.shards) {
            return shardNodes[node];
        }
        return acceptorAt(node);
    }

    /** Has the TXN get the LOCK of the KEY, and answers how that went. */
    private int access(int txn, int key, int wanted) {
        if (!isTxn(txn) || !isKey(key)) {
            return BAD;
        }
        if (txns.states[txn] != ACTIVE) {
            return NOT_ACTIVE;
        }
        Shard shard = shardNodes[sizes.shardOf(key)];
        if (!shard.up) {
            return SHARD_DOWN;
        }
        if (txns.touches(txn, shard.number) && !shard.sessions[txn]) {
            return SESSION_GONE;
        }
        if (!keys.canGrant(txn, key, wanted)) {
            return LOCK_NOT_GRANTED;
        }
        keys.grant(txn, key, wanted);
        shard.sessions[txn] = true;
        txns.touch(txn, shard.number);
        return DONE;
    }

    /** Delivers MESSAGE i, which must be in the pool. */
    private int handOver(int i) {
        Message m = pool.take(i);
        delivered++;
        if (m.to == sizes.client()) {
            txns.hearEnd(m.txn, m.vote);
            return m.kind;
        }
        Node node = nodeAt(m.to);
        if (node == null || !node.up) {
            return NODE_WAS_DOWN;
        }
        return node.hear(m) ? m.kind : NODE_WAS_MUTE;
    }

    /** How many there are of everything, brought to the bounds of the document. */
    private static final class Sizes {
        final int shards;
        final int acceptors;
        final int txns;
        final int keys;
        final int pool;
        final int log;

        Sizes(int shards, int acceptors, int txns, int keys, int pool, int log) {
            this.shards = nearest(shards, 4);
            this.acceptors = nearestOdd(acceptors);
            this.txns = nearest(txns, 16);
            this.keys = nearest(keys, 32);
            this.pool = nearest(pool, 200);
            this.log = nearest(log, 200);
        }

        private static int nearest(int wish, int most) {
            return Math.max(1, Math.min(most, wish));
        }

        private static int nearestOdd(int wish) {
            if (wish <= 2) {
                return 1;
            }
            return wish <= 4 ? 3 : 5;
        }

        int client() {
            return shards + acceptors;
        }

        int shardOf(int key) {
            return key % shards;
        }

        int acceptorOf(int ballot) {
            return shards + ballot % acceptors;
        }

        boolean isMajority(int counted) {
            return Integer.bitCount(counted) > acceptors / 2;
        }
    }

    /** What THE CLIENT holds of the TXNS: their STATE, and which SHARDS they TOUCH. */
    private static final class Txns {
        final int[] states;
        private final int[] touched;

        Txns(Sizes sizes) {
            states = new int[sizes.txns];
            touched = new int[sizes.txns];
        }

        void touch(int txn, int shard) {
            touched[txn] |= 1 << shard;
        }

        boolean touches(int txn, int shard) {
            return (touched[txn] & (1 << shard)) != 0;
        }

        boolean touchesNone(int txn) {
            return touched[txn] == 0;
        }

        void hearEnd(int txn, int end) {
            if (states[txn] == ASKED) {
                states[txn] = end;
            }
        }

        int in(int wanted) {
            int found = 0;
            for (int state : states) {
                if (state == wanted) {
                    found++;
                }
            }
            return found;
        }
    }

    /** The VALUES of the KEYS, and what the SESSIONS of the TXNS have of them: LOCKS and NEW VALUES. */
    private static final class Keys {
        final long[] values;
        private final Sizes sizes;
        private final int[][] locks;
        private final long[][] newValues;

        Keys(Sizes sizes) {
            this.sizes = sizes;
            values = new long[sizes.keys];
            locks = new int[sizes.txns][sizes.keys];
            newValues = new long[sizes.txns][sizes.keys];
        }

        boolean canGrant(int txn, int key, int wanted) {
            for (int t = 0; t < locks.length; t++) {
                int held = locks[t][key];
                if (t != txn && (held == EXCLUSIVE || (held == SHARED && wanted == EXCLUSIVE))) {
                    return false;
                }
            }
            return true;
        }

        void grant(int txn, int key, int wanted) {
            locks[txn][key] = Math.max(wanted, locks[txn][key]);
        }

        void renew(int txn, int key, long value) {
            newValues[txn][key] = value;
        }

        // Only a write takes a LOCK EXCLUSIVE, so it is there just as long as the NEW VALUE is.
        long seenBy(int txn, int key) {
            return locks[txn][key] == EXCLUSIVE ? newValues[txn][key] : values[key];
        }

        void install(int txn, int shard) {
            for (int key = 0; key < values.length; key++) {
                if (sizes.shardOf(key) == shard) {
                    values[key] = seenBy(txn, key);
                }
            }
        }

        void dropShared(int txn, int shard) {
            for (int key = 0; key < values.length; key++) {
                if (sizes.shardOf(key) == shard && locks[txn][key] == SHARED) {
                    locks[txn][key] = 0;
                }
            }
        }

        void dropAll(int txn, int shard) {
            for (int key = 0; key < values.length; key++) {
                if (sizes.shardOf(key) == shard) {
                    locks[txn][key] = 0;
                }
            }
        }

        int holders(int key) {
            int found = 0;
            for (int t = 0; t < locks.length; t++) {
                if (locks[t][key] != 0) {
                    found++;
                }
            }
            return found;
        }

        int leastHolder(int key) {
            for (int t = 0; t < locks.length; t++) {
                if (locks[t][key] != 0) {
                    return t;
                }
            }
            return BAD;
        }

        boolean isExclusive(int key) {
            for (int t = 0; t < locks.length; t++) {
                if (locks[t][key] == EXCLUSIVE) {
                    return true;
                }
            }
            return false;
        }
    }

    /** A MESSAGE; what its kind has not is 0. The told rows mean something in a PROMISE alone. */
    private static final class Message {
        int kind;
        int to;
        int txn;
        int ballot;
        int shard;
        int vote;
        int from;
        final int[] toldBallots;
        final int[] toldVotes;

        Message(int shards) {
            toldBallots = new int[shards];
            toldVotes = new int[shards];
        }

        void copyFrom(Message other, int receiver) {
            kind = other.kind;
            to = receiver;
            txn = other.txn;
            ballot = other.ballot;
            shard = other.shard;
            vote = other.vote;
            from = other.from;
            for (int s = 0; s < toldBallots.length; s++) {
                toldBallots[s] = other.toldBallots[s];
                toldVotes[s] = other.toldVotes[s];
            }
        }

        void tell(int[] ballots, int[] votes) {
            for (int s = 0; s < toldBallots.length; s++) {
                toldBallots[s] = ballots[s];
                toldVotes[s] = votes[s];
            }
        }

        int told(int what) {
            switch (what) {
                case 0:
                    return kind;
                case 1:
                    return to;
                case 2:
                    return txn;
                case 3:
                    return ballot;
                case 4:
                    return shard;
                case 5:
                    return vote;
                case 6:
                    return from;
                default:
                    return BAD;
            }
        }
    }

    /**
     * THE POOL. A message taken out stays whole, as the one in hand, till the next is taken: its reader may post
     * meanwhile, since posting copies the draft into another place.
     */
    private static final class Pool {
        private final Sizes sizes;
        final Message[] queue;
        final Message draft;
        private Message inHand;
        int waiting;
        int posted;
        int lost;

        Pool(Sizes sizes) {
            this.sizes = sizes;
            queue = new Message[sizes.pool];
            for (int i = 0; i < queue.length; i++) {
                queue[i] = new Message(sizes.shards);
            }
            draft = new Message(sizes.shards);
            inHand = new Message(sizes.shards);
        }

        boolean has(int i) {
            return i >= 0 && i < waiting;
        }

        Message take(int i) {
            Message taken = queue[i];
            for (int j = i + 1; j < waiting; j++) {
                queue[j - 1] = queue[j];
            }
            waiting--;
            queue[waiting] = inHand;
            inHand = taken;
            return taken;
        }

        void startDraft(int kind, int txn, int from) {
            draft.kind = kind;
            draft.txn = txn;
            draft.from = from;
            draft.ballot = 0;
            draft.shard = 0;
            draft.vote = 0;
        }

        void startDraftOfVote(int kind, int txn, int from, int ballot, int shard, int vote) {
            startDraft(kind, txn, from);
            draft.ballot = ballot;
            draft.shard = shard;
            draft.vote = vote;
        }

        void postDraftToAcceptors() {
            for (int a = 0; a < sizes.acceptors; a++) {
                post(draft, sizes.shards + a);
            }
        }

        boolean post(Message m, int to) {
            posted++;
            if (waiting >= queue.length) {
                lost++;
                return false;
            }
            queue[waiting].copyFrom(m, to);
            waiting++;
            return true;
        }
    }

    /** The LOG of a node. */
    private static final class Log {
        private final int[][] rows;
        int length;

        Log(int most) {
            rows = new int[most][4];
        }

        boolean isFull() {
            return length >= rows.length;
        }

        void put(int kind, int txn, int second, int third) {
            if (isFull()) {
                return;
            }
            rows[length][0] = kind;
            rows[length][1] = txn;
            rows[length][2] = second;
            rows[length][3] = third;
            length++;
        }

        int told(int i, int what) {
            return i >= 0 && i < length && what >= 0 && what < 4 ? rows[i][what] : BAD;
        }
    }

    private abstract static class Node {
        final int number;
        final Sizes sizes;
        final Pool pool;
        final Log log;
        boolean up = true;

        Node(int number, Sizes sizes, Pool pool) {
            this.number = number;
            this.sizes = sizes;
            this.pool = pool;
            this.log = new Log(sizes.log);
        }

        /** Does what a MESSAGE tells; false: the node is MUTE. */
        abstract boolean hear(Message m);

        abstract void forget();

        abstract int told(int what);
    }

    private static final class Shard extends Node {
        final boolean[] sessions;
        private final Keys keys;
        private final int[] voted;
        private final int[] decided;

        Shard(int number, Sizes sizes, Keys keys, Pool pool) {
            super(number, sizes, pool);
            this.keys = keys;
            sessions = new boolean[sizes.txns];
            voted = new int[sizes.txns];
            decided = new int[sizes.txns];
        }

        boolean hear(Message m) {
            switch (m.kind) {
                case MESSAGE_PREPARE:
                    return hearPrepare(m.txn);
                case MESSAGE_END:
                    return hearEnd(m.txn, m.vote);
                default:
                    return true;
            }
        }

        private boolean hearPrepare(int txn) {
            if (decided[txn] != 0) {
                return true;
            }
            if (voted[txn] == 0) {
                if (log.isFull()) {
                    return false;
                }
                vote(txn);
            }
            pool.startDraftOfVote(MESSAGE_VOTE, txn, number, 0, number, voted[txn]);
            pool.postDraftToAcceptors();
            return true;
        }

        private void vote(int txn) {
            voted[txn] = sessions[txn] ? YES : NO;
            log.put(ENTRY_VOTED, txn, voted[txn], 0);
            if (sessions[txn]) {
                keys.dropShared(txn, number);
            }
        }

        private boolean hearEnd(int txn, int end) {
            if (decided[txn] != 0) {
                return true;
            }
            if (log.isFull()) {
                return false;
            }
            decided[txn] = end;
            log.put(ENTRY_DECIDED, txn, end, 0);
            if (end == COMMITTED && sessions[txn]) {
                keys.install(txn, number);
            }
            endSession(txn);
            return true;
        }

        void endSession(int txn) {
            if (sessions[txn]) {
                sessions[txn] = false;
                keys.dropAll(txn, number);
            }
        }

        void forget() {
            for (int t = 0; t < sessions.length; t++) {
                boolean mustStay = voted[t] == YES && decided[t] == 0;
                if (!mustStay) {
                    endSession(t);
                }
            }
        }

        int told(int what) {
            return what == 2 ? openSessions() : BAD;
        }

        private int openSessions() {
            int found = 0;
            for (boolean open : sessions) {
                if (open) {
                    found++;
                }
            }
            return found;
        }
    }

    /** What an ACCEPTOR holds about one TXN; sets of ACCEPTORS are bits, one for each. */
    private static final class View {
        private final int firstLed;
        int promised;
        int led;
        int known;
        int promisers;
        final int[] acceptedBallots;
        final int[] acceptedVotes;
        final int[] keptBallots;
        final int[] keptVotes;
        final int[] countedYes;
        final int[] countedNo;

        View(int firstLed, int shards) {
            this.firstLed = firstLed;
            led = firstLed;
            acceptedBallots = new int[shards];
            acceptedVotes = new int[shards];
            keptBallots = new int[shards];
            keptVotes = new int[shards];
            countedYes = new int[shards];
            countedNo = new int[shards];
            Arrays.fill(acceptedBallots, BAD);
            Arrays.fill(keptBallots, BAD);
        }

        void lead(int ballot) {
            led = ballot;
            promisers = 0;
            Arrays.fill(keptBallots, BAD);
            Arrays.fill(keptVotes, 0);
            Arrays.fill(countedYes, 0);
            Arrays.fill(countedNo, 0);
        }

        void forget() {
            known = 0;
            lead(firstLed);
        }

        boolean hasAccepted(int ballot, int shard, int vote) {
            return acceptedBallots[shard] == ballot && acceptedVotes[shard] == vote;
        }

        void take(int ballot, int shard, int vote) {
            promised = ballot;
            acceptedBallots[shard] = ballot;
            acceptedVotes[shard] = vote;
        }

        boolean listensFor(int ballot) {
            return led == ballot && known == 0;
        }

        void countVoter(int shard, int vote, int bit) {
            if (((countedYes[shard] | countedNo[shard]) & bit) != 0) {
                return;
            }
            if (vote == YES) {
                countedYes[shard] |= bit;
            } else {
                countedNo[shard] |= bit;
            }
        }

        void keepGreatest(int[] ballots, int[] votes) {
            for (int s = 0; s < keptBallots.length; s++) {
                if (ballots[s] > keptBallots[s]) {
                    keptBallots[s] = ballots[s];
                    keptVotes[s] = votes[s];
                }
            }
        }

        int keptOrNo(int shard) {
            return keptVotes[shard] == 0 ? NO : keptVotes[shard];
        }

        int toldOfBallot(int what) {
            switch (what) {
                case 0:
                    return promised;
                case 1:
                    return led;
                case 2:
                    return known;
                case 3:
                    return Integer.bitCount(promisers);
                default:
                    return BAD;
            }
        }

        int toldOfShard(int shard, int what) {
            switch (what) {
                case 0:
                    return acceptedBallots[shard];
                case 1:
                    return acceptedVotes[shard];
                case 2:
                    return Integer.bitCount(countedYes[shard] | countedNo[shard]);
                default:
                    return BAD;
            }
        }
    }

    private static final class Acceptor extends Node {
        final View[] views;
        private final int index;
        private final Txns txns;

        Acceptor(int index, Sizes sizes, Txns txns, Pool pool) {
            super(sizes.shards + index, sizes, pool);
            this.index = index;
            this.txns = txns;
            views = new View[sizes.txns];
            for (int t = 0; t < views.length; t++) {
                views[t] = new View(index == 0 ? 0 : BAD, sizes.shards);
            }
        }

        boolean hear(Message m) {
            View view = views[m.txn];
            switch (m.kind) {
                case MESSAGE_VOTE:
                    return hearVote(m, view);
                case MESSAGE_ACCEPTED:
                    hearAccepted(m, view);
                    return true;
                case MESSAGE_ASK:
                    return hearAsk(m, view);
                case MESSAGE_PROMISE:
                    hearPromise(m, view);
                    return true;
                default:
                    return true;
            }
        }

        private boolean hearVote(Message m, View view) {
            if (m.ballot < view.promised) {
                return true;
            }
            if (!view.hasAccepted(m.ballot, m.shard, m.vote)) {
                if (log.isFull()) {
                    return false;
                }
                log.put(ENTRY_ACCEPTED, m.txn, m.ballot, 10 * m.shard + m.vote);
                view.take(m.ballot, m.shard, m.vote);
            }
            pool.startDraftOfVote(MESSAGE_ACCEPTED, m.txn, number, m.ballot, m.shard, m.vote);
            pool.post(pool.draft, sizes.acceptorOf(m.ballot));
            return true;
        }

        private void hearAccepted(Message m, View view) {
            if (!view.listensFor(m.ballot)) {
                return;
            }
            view.countVoter(m.shard, m.vote, bitOf(m.from));
            int end = endOf(m.txn, view);
            if (end != 0) {
                view.known = end;
                postEnd(m.txn, end);
            }
        }

        /** The end that the counted votes make sure of; 0: none yet. */
        private int endOf(int txn, View view) {
            boolean allYes = true;
            for (int s = 0; s < sizes.shards; s++) {
                if (txns.touches(txn, s)) {
                    if (sizes.isMajority(view.countedNo[s])) {
                        return ABORTED;
                    }
                    allYes = allYes && sizes.isMajority(view.countedYes[s]);
                }
            }
            return allYes ? COMMITTED : 0;
        }

        private void postEnd(int txn, int end) {
            pool.startDraft(MESSAGE_END, txn, number);
            pool.draft.vote = end;
            for (int s = 0; s < sizes.shards; s++) {
                if (txns.touches(txn, s)) {
                    pool.post(pool.draft, s);
                }
            }
            pool.post(pool.draft, sizes.client());
        }

        private boolean hearAsk(Message m, View view) {
            if (m.ballot < view.promised) {
                return true;
            }
            if (m.ballot > view.promised) {
                if (log.isFull()) {
                    return false;
                }
                promise(m.txn, m.ballot);
            }
            pool.startDraft(MESSAGE_PROMISE, m.txn, number);
            pool.draft.ballot = m.ballot;
            pool.draft.tell(view.acceptedBallots, view.acceptedVotes);
            pool.post(pool.draft, sizes.acceptorOf(m.ballot));
            return true;
        }

        private void promise(int txn, int ballot) {
            log.put(ENTRY_PROMISED, txn, ballot, 0);
            views[txn].promised = ballot;
        }

        private void hearPromise(Message m, View view) {
            if (!view.listensFor(m.ballot) || sizes.isMajority(view.promisers)) {
                return;
            }
            view.promisers |= bitOf(m.from);
            view.keepGreatest(m.toldBallots, m.toldVotes);
            if (!sizes.isMajority(view.promisers)) {
                return;
            }
            for (int s = 0; s < sizes.shards; s++) {
                if (txns.touches(m.txn, s)) {
                    pool.startDraftOfVote(MESSAGE_VOTE, m.txn, number, m.ballot, s, view.keptOrNo(s));
                    pool.postDraftToAcceptors();
                }
            }
        }

        int takeOver(int txn) {
            View view = views[txn];
            if (!up || view.known != 0 || log.isFull()) {
                return 0;
            }
            int ballot = nextOwn(Math.max(0, Math.max(view.led, view.promised)));
            view.lead(ballot);
            promise(txn, ballot);
            pool.startDraft(MESSAGE_ASK, txn, number);
            pool.draft.ballot = ballot;
            pool.postDraftToAcceptors();
            return ballot;
        }

        /** The least BALLOT of this ACCEPTOR above the given one. */
        private int nextOwn(int ballot) {
            int least = ballot + 1;
            return least + Math.floorMod(index - least, sizes.acceptors);
        }

        private int bitOf(int node) {
            return 1 << (node - sizes.shards);
        }

        void forget() {
            for (View view : views) {
                view.forget();
            }
        }

        int told(int what) {
            switch (what) {
                case 3:
                    return unpromised();
                case 4:
                    return ended();
                default:
                    return BAD;
            }
        }

        private int unpromised() {
            int found = 0;
            for (View view : views) {
                if (view.promised == 0) {
                    found++;
                }
            }
            return found;
        }

        private int ended() {
            int found = 0;
            for (View view : views) {
                if (view.known != 0) {
                    found++;
                }
            }
            return found;
        }
    }
}
