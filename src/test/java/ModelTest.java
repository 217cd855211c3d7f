import java.util.Random;

/** Runs of at most 512 calls, drawn by fixed seeds, each answer compared with that of the PlainModel. */
public final class ModelTest {
    private static final int RUNS = 6000;
    private static final int CALLS = 511; // the last step may take two
    private static final int[] ODD = {Integer.MIN_VALUE, Integer.MAX_VALUE, -1, -2, 401, 1 << 16, 33, 200};
    private static final Due DUE = new Due("ModelTest");

    private final Random draw;
    private final CommitShards real;
    private final PlainModel model;
    private final String name;
    private int calls;

    private ModelTest(int seed) {
        draw = new Random(seed);
        int[] p = new int[6];
        int[] usual = {4, 5, 6, 10, 60, 60};
        for (int i = 0; i < p.length; i++) {
            p[i] = 1 + draw.nextInt(usual[i]);
        }
        if (draw.nextInt(4) != 0) {
            p[4] = 40 + draw.nextInt(170);
            p[5] = 15 + draw.nextInt(200);
        }
        if (draw.nextInt(6) == 0) {
            p[draw.nextInt(6)] = odd();
        }
        name = "new(" + p[0] + "," + p[1] + "," + p[2] + "," + p[3] + "," + p[4] + "," + p[5] + ")";
        real = new CommitShards(p[0], p[1], p[2], p[3], p[4], p[5]);
        model = new PlainModel(p[0], p[1], p[2], p[3], p[4], p[5]);
    }

    public static void main(String[] args) {
        for (int seed = 0; seed < RUNS && DUE.isRight(); seed++) {
            new ModelTest(seed).run();
        }
        DUE.end();
    }

    private void run() {
        if (draw.nextInt(3) == 0) {
            duel();
        }
        int nodeWeight = draw.nextInt(8);
        while (calls < CALLS && DUE.isRight()) {
            int kind = draw.nextInt(40 + nodeWeight);
            if (kind < 12) {
                transact();
            } else if (kind < 24) {
                move();
            } else if (kind < 40) {
                ask();
            } else {
                fall();
            }
        }
    }

    /** One TXN that touches much, and acceptors that take it over from one another. */
    private void duel() {
        be(model.begin(0), real.begin(0), "begin(0)");
        for (int key = 0; key < Math.min(4, model.count(8)); key++) {
            be(model.write(0, key, key), real.write(0, key, key), "write(0, " + key + ", " + key + ")");
        }
        be(model.requestCommit(0), real.requestCommit(0), "requestCommit(0)");
        if (draw.nextInt(3) == 0) {
            be(model.crash(0), real.crash(0), "crash(0)");
            be(model.restart(0), real.restart(0), "restart(0)");
        }
        int rounds = draw.nextInt(300);
        for (int i = 0; i < rounds && DUE.isRight(); i++) {
            int node = model.count(5) + draw.nextInt(model.count(6));
            if (draw.nextInt(12) == 0) {
                be(model.timeout(node, 0), real.timeout(node, 0), "timeout(" + node + ", 0)");
            } else if (draw.nextInt(40) == 0) {
                be(model.crash(node), real.crash(node), "crash(" + node + ")");
                be(model.restart(node), real.restart(node), "restart(" + node + ")");
            } else if (draw.nextInt(4) == 0) {
                int shard = draw.nextInt(model.count(5));
                be(model.accepted(node, 0, shard, 1), real.accepted(node, 0, shard, 1),
                    "accepted(" + node + ", 0, " + shard + ", 1)");
            } else {
                int place = draw.nextInt(Math.max(1, model.pending()));
                be(model.deliver(place), real.deliver(place), "deliver(" + place + ")");
            }
        }
    }

    private void be(long want, long got, String call) {
        calls++;
        DUE.be(want, got, name + " call " + calls + " " + call);
    }

    private int odd() {
        return ODD[draw.nextInt(ODD.length)];
    }

    private int below(int bound) {
        return draw.nextInt(60) == 0 ? odd() : draw.nextInt(Math.max(1, bound + (draw.nextInt(30) == 0 ? 1 : 0)));
    }

    private int txn() {
        return below(model.count(7));
    }

    private int key() {
        return below(model.count(8));
    }

    private int aNode() {
        return below(model.count(5) + model.count(6));
    }

    private int acceptor() {
        return draw.nextInt(30) == 0 ? aNode() : model.count(5) + below(model.count(6));
    }

    private int place() {
        int all = model.pending();
        return draw.nextInt(3) == 0 ? below(all) : below(Math.min(all, 3));
    }

    private void transact() {
        int txn = txn();
        int key = key();
        switch (draw.nextInt(9)) {
            case 0, 1 -> be(model.begin(txn), real.begin(txn), "begin(" + txn + ")");
            case 2, 3 -> {
                be(model.read(txn, key), real.read(txn, key), "read(" + txn + ", " + key + ")");
                be(model.readStatus(), real.readStatus(), "readStatus()");
            }
            case 4, 5, 6 -> {
                long value = draw.nextInt(9) == 0 ? draw.nextLong() : draw.nextInt(100);
                be(model.write(txn, key, value), real.write(txn, key, value), "write(" + txn + ", " + key + ", " + value + ")");
            }
            case 7 -> be(model.requestCommit(txn), real.requestCommit(txn), "requestCommit(" + txn + ")");
            default -> {
                if (draw.nextInt(3) == 0) {
                    be(model.abort(txn), real.abort(txn), "abort(" + txn + ")");
                } else {
                    be(model.requestCommit(txn), real.requestCommit(txn), "requestCommit(" + txn + ")");
                }
            }
        }
    }

    private void move() {
        int i = place();
        switch (draw.nextInt(16)) {
            case 0 -> be(model.drop(i), real.drop(i), "drop(" + i + ")");
            case 1 -> be(model.twice(i), real.twice(i), "twice(" + i + ")");
            case 2 -> {
                int node = acceptor();
                int txn = txn();
                be(model.timeout(node, txn), real.timeout(node, txn), "timeout(" + node + ", " + txn + ")");
            }
            case 3, 4 -> {
                long seed = draw.nextInt(5) == 0 ? draw.nextInt(3) - 1 : draw.nextLong();
                int n = draw.nextInt(10) == 0 ? below(402) : below(12);
                be(model.play(seed, n), real.play(seed, n), "play(" + seed + ", " + n + ")");
            }
            default -> be(model.deliver(i), real.deliver(i), "deliver(" + i + ")");
        }
    }

    private void fall() {
        int node = aNode();
        if (draw.nextInt(5) < 2) {
            be(model.crash(node), real.crash(node), "crash(" + node + ")");
        } else {
            be(model.restart(node), real.restart(node), "restart(" + node + ")");
        }
    }

    private void ask() {
        int txn = txn();
        int key = key();
        int node = aNode();
        int acceptor = acceptor();
        int what = below(5);
        switch (draw.nextInt(10)) {
            case 0 -> be(model.outcome(txn), real.outcome(txn), "outcome(" + txn + ")");
            case 1 -> be(model.committedValue(key), real.committedValue(key), "committedValue(" + key + ")");
            case 2 -> be(model.pending(), real.pending(), "pending()");
            case 3 -> {
                int i = below(model.pending());
                int of = below(7);
                be(model.message(i, of), real.message(i, of), "message(" + i + ", " + of + ")");
            }
            case 4 -> be(model.lock(key, what), real.lock(key, what), "lock(" + key + ", " + what + ")");
            case 5 -> be(model.node(node, what), real.node(node, what), "node(" + node + ", " + what + ")");
            case 6 -> {
                int i = below(model.node(node, 1));
                be(model.entry(node, i, what), real.entry(node, i, what), "entry(" + node + ", " + i + ", " + what + ")");
            }
            case 7 -> be(model.ballot(acceptor, txn, what), real.ballot(acceptor, txn, what),
                "ballot(" + acceptor + ", " + txn + ", " + what + ")");
            case 8 -> {
                int shard = below(model.count(5));
                be(model.accepted(acceptor, txn, shard, what), real.accepted(acceptor, txn, shard, what),
                    "accepted(" + acceptor + ", " + txn + ", " + shard + ", " + what + ")");
            }
            default -> {
                int of = below(9);
                be(model.count(of), real.count(of), "count(" + of + ")");
            }
        }
    }
}
