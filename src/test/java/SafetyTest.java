import java.util.Random;

/**
 * Each TXN takes 1 from a KEY and adds it to another, while messages are lost, come twice and in any order, and nodes
 * fall. Whatever happens: all that decide of a TXN decide the same; and when all is healed and ended, the sum of all
 * VALUES is 0 again, and a TXN's writes are all there or none.
 */
public final class SafetyTest {
    private static final int RUNS = 3000;
    private static final int TXNS = 5;
    private static final int KEYS = 8;
    private static final Due DUE = new Due("SafetyTest");
    private static int committed;
    private static int aborted;

    private final Random draw;
    private final CommitShards x;
    private final int shards;
    private final int acceptors;
    private final int[] known = new int[TXNS];
    private final long[] moved = new long[KEYS];
    private final int[][] wrote = new int[TXNS][];
    private final String name;

    private SafetyTest(int seed) {
        name = "seed " + seed + ": ";
        draw = new Random(seed);
        shards = 1 + draw.nextInt(4);
        acceptors = 1 + 2 * draw.nextInt(3);
        x = new CommitShards(shards, acceptors, TXNS, KEYS, 200, 200);
    }

    public static void main(String[] args) {
        for (int seed = 0; seed < RUNS && DUE.isRight(); seed++) {
            new SafetyTest(seed).run();
        }
        DUE.hold(committed > RUNS && aborted > RUNS, "many of both: " + committed + " and " + aborted);
        DUE.end();
    }

    private void run() {
        // the steps are so few that all calls together stay within the 512 of an object
        for (int step = 0; step < 35; step++) {
            disturb();
            step(draw.nextInt(TXNS));
            x.play(draw.nextLong(), draw.nextInt(8));
            if (step == 25) {
                agree();
            }
        }
        heal();
        agree();
        sums();
    }

    private void step(int txn) {
        if (x.outcome(txn) == 0) {
            x.begin(txn);
            transfer(txn, draw.nextInt(KEYS), draw.nextInt(KEYS));
        } else if (x.outcome(txn) == 1) {
            x.requestCommit(txn);
        }
    }

    private void transfer(int txn, int from, int to) {
        if (!add(txn, from, -1) || !add(txn, to, 1)) {
            x.abort(txn);
        } else {
            wrote[txn] = new int[] {from, to};
        }
    }

    private boolean add(int txn, int key, int what) {
        long value = x.read(txn, key);
        return x.readStatus() == 1 && x.write(txn, key, value + what) == 1;
    }

    private void disturb() {
        int node = draw.nextInt(shards + acceptors);
        switch (draw.nextInt(8)) {
            case 0 -> x.crash(node);
            case 1, 2 -> x.restart(node);
            case 3 -> x.drop(draw.nextInt(1 + x.pending()));
            case 4 -> x.twice(draw.nextInt(1 + x.pending()));
            case 5 -> x.timeout(shards + draw.nextInt(acceptors), draw.nextInt(TXNS));
            default -> { }
        }
    }

    private void heal() {
        for (int node = 0; node < shards + acceptors; node++) {
            x.restart(node);
        }
        x.play(draw.nextLong(), 400);
        for (int txn = 0; txn < TXNS; txn++) {
            if (x.outcome(txn) == 1) {
                x.abort(txn);
            }
            // one that knows the end does not take over: it falls first
            int leader = mostPromised(txn);
            x.crash(leader);
            x.restart(leader);
            x.timeout(leader, txn);
            x.play(draw.nextLong(), 400);
        }
    }

    /** Its next ballot is above what any other promised. */
    private int mostPromised(int txn) {
        int best = shards;
        int most = -1;
        for (int a = shards; a < shards + acceptors; a++) {
            int promised = x.ballot(a, txn, 0);
            if (promised > most) {
                most = promised;
                best = a;
            }
        }
        return best;
    }

    private void heard(int txn, int end, String who) {
        if (end == 3 || end == 4) {
            if (known[txn] == 0) {
                known[txn] = end;
            }
            DUE.be(known[txn], end, name + who + " of txn " + txn);
        }
    }

    private void agree() {
        for (int txn = 0; txn < TXNS; txn++) {
            heard(txn, x.outcome(txn), "the client");
            for (int a = shards; a < shards + acceptors; a++) {
                heard(txn, x.ballot(a, txn, 2), "acceptor " + a);
            }
        }
        for (int s = 0; s < shards; s++) {
            for (int i = 0; i < x.node(s, 1); i++) {
                if (x.entry(s, i, 0) == 2) {
                    heard(x.entry(s, i, 1), x.entry(s, i, 2), "shard " + s);
                }
            }
        }
    }

    private void sums() {
        long sum = 0;
        for (int txn = 0; txn < TXNS; txn++) {
            int end = x.outcome(txn);
            if (end == 3) {
                moved[wrote[txn][0]]--;
                moved[wrote[txn][1]]++;
            }
            DUE.hold(end == 0 || end == 3 || end == 4, name + "txn " + txn + " has ended: " + end);
            committed += end == 3 ? 1 : 0;
            aborted += end == 4 ? 1 : 0;
        }
        for (int key = 0; key < KEYS; key++) {
            sum += x.committedValue(key);
            DUE.be(moved[key], x.committedValue(key), name + "key " + key);
            DUE.be(0, x.lock(key, 0), name + "locks of key " + key);
        }
        DUE.be(0, sum, name + "the sum");
    }
}
