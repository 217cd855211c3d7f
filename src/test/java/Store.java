/** A CommitShards that counts its calls: what is answered after the 512th is free, so no test may ask for it. */
final class Store {
    static final int BAD = CommitShards.BAD;
    private static final int MOST_CALLS = 512;

    private final CommitShards x;
    private int calls;

    Store(int shards, int acceptors, int txns, int keys, int pool, int log) {
        x = new CommitShards(shards, acceptors, txns, keys, pool, log);
    }

    private CommitShards called() {
        calls++;
        if (calls > MOST_CALLS) {
            throw new IllegalStateException("a test makes more than 512 calls of one object");
        }
        return x;
    }

    int begin(int txn) {
        return called().begin(txn);
    }

    long read(int txn, int key) {
        return called().read(txn, key);
    }

    int readStatus() {
        return called().readStatus();
    }

    int write(int txn, int key, long value) {
        return called().write(txn, key, value);
    }

    int requestCommit(int txn) {
        return called().requestCommit(txn);
    }

    int abort(int txn) {
        return called().abort(txn);
    }

    int outcome(int txn) {
        return called().outcome(txn);
    }

    long committedValue(int key) {
        return called().committedValue(key);
    }

    int deliver(int i) {
        return called().deliver(i);
    }

    int drop(int i) {
        return called().drop(i);
    }

    int twice(int i) {
        return called().twice(i);
    }

    int timeout(int node, int txn) {
        return called().timeout(node, txn);
    }

    int crash(int node) {
        return called().crash(node);
    }

    int restart(int node) {
        return called().restart(node);
    }

    int pending() {
        return called().pending();
    }

    int play(long seed, int n) {
        return called().play(seed, n);
    }

    int message(int i, int what) {
        return called().message(i, what);
    }

    int lock(int key, int what) {
        return called().lock(key, what);
    }

    int node(int node, int what) {
        return called().node(node, what);
    }

    int entry(int node, int i, int what) {
        return called().entry(node, i, what);
    }

    int ballot(int node, int txn, int what) {
        return called().ballot(node, txn, what);
    }

    int accepted(int node, int txn, int shard, int what) {
        return called().accepted(node, txn, shard, what);
    }

    int count(int what) {
        return called().count(what);
    }

    // ---- several calls in one

    /** The place of the first MESSAGE of that kind to that node; BAD: there is none. */
    int find(int kind, int to) {
        int all = pending();
        for (int i = 0; i < all; i++) {
            if (message(i, 0) == kind && message(i, 1) == to) {
                return i;
            }
        }
        return BAD;
    }

    /** Delivers the first MESSAGE of that kind to that node. */
    int send(int kind, int to) {
        return deliver(find(kind, to));
    }

    void fallAndRise(int node) {
        crash(node);
        restart(node);
    }

    void dropAll() {
        for (int left = pending(); left > 0; left--) {
            drop(0);
        }
    }

    /** Delivers the first MESSAGE as often as told. */
    void deliverFirst(int times) {
        for (int i = 0; i < times; i++) {
            deliver(0);
        }
    }
}
