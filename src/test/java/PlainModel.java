import java.math.BigInteger;
import java.util.ArrayList;
import java.util.HashMap;
import java.util.HashSet;
import java.util.List;
import java.util.Map;
import java.util.Set;
import java.util.TreeMap;
import java.util.TreeSet;

/**
 * The document told a second time, slowly and with other means: what a node VOTED, DECIDED, PROMISED and ACCEPTED is
 * looked up in its LOG each time, what it forgets is thrown away whole.
 */
final class PlainModel {
    private static final int BAD = -1;

    private static final class Letter {
        int kind;
        int to;
        int txn;
        int ballot;
        int shard;
        int vote;
        int from;
        Map<Integer, int[]> told = new HashMap<>();

        Letter like() {
            Letter l = new Letter();
            l.kind = kind;
            l.to = to;
            l.txn = txn;
            l.ballot = ballot;
            l.shard = shard;
            l.vote = vote;
            l.from = from;
            l.told = new HashMap<>(told);
            return l;
        }
    }

    private static final class Session {
        final Set<Integer> shared = new TreeSet<>();
        final Set<Integer> exclusive = new TreeSet<>();
        final Map<Integer, Long> fresh = new TreeMap<>();

        boolean has(int key) {
            return shared.contains(key) || exclusive.contains(key);
        }
    }

    /** What an acceptor has in mind about a TXN, and forgets when it falls. */
    private static final class Mind {
        int leads;
        int knows;
        final Set<Integer> promisers = new HashSet<>();
        final Map<Integer, int[]> kept = new HashMap<>();
        final Map<Integer, Map<Integer, Integer>> counted = new HashMap<>();

        Mind(int leads) {
            this.leads = leads;
        }
    }

    private final int s;
    private final int a;
    private final int t;
    private final int k;
    private final int m;
    private final int l;
    private final int[] state;
    private final List<Set<Integer>> touches = new ArrayList<>();
    private final long[] value;
    private final List<Map<Integer, Session>> sessions = new ArrayList<>();
    private final List<Map<Integer, Mind>> minds = new ArrayList<>();
    private final List<List<int[]>> logs = new ArrayList<>();
    private final Set<Integer> down = new HashSet<>();
    private final List<Letter> pool = new ArrayList<>();
    private int status;
    private int posted;
    private int lost;
    private int delivered;

    PlainModel(int shards, int acceptors, int txns, int keys, int pool, int log) {
        s = near(shards, new int[] {1, 2, 3, 4});
        a = near(acceptors, new int[] {1, 3, 5});
        t = near(txns, upTo(16));
        k = near(keys, upTo(32));
        m = near(pool, upTo(200));
        l = near(log, upTo(200));
        state = new int[t];
        value = new long[k];
        for (int i = 0; i < t; i++) {
            touches.add(new TreeSet<>());
        }
        for (int i = 0; i < s + a; i++) {
            sessions.add(new TreeMap<>());
            minds.add(new TreeMap<>());
            logs.add(new ArrayList<>());
        }
    }

    private static int[] upTo(int most) {
        int[] all = new int[most];
        for (int i = 0; i < most; i++) {
            all[i] = i + 1;
        }
        return all;
    }

    private static int near(int wish, int[] allowed) {
        int best = allowed[0];
        for (int x : allowed) {
            if (Math.abs((long) x - wish) < Math.abs((long) best - wish)) {
                best = x;
            }
        }
        return best;
    }

    private static boolean in(int x, int bound) {
        return 0 <= x && x < bound;
    }

    private boolean isAcceptor(int node) {
        return s <= node && node < s + a;
    }

    private Mind mind(int node, int txn) {
        return minds.get(node).computeIfAbsent(txn, x -> new Mind(node == s ? 0 : -1));
    }

    // ---- what the log tells

    private int voted(int node, int txn) {
        return logs.get(node).stream().filter(e -> e[0] == 1 && e[1] == txn).mapToInt(e -> e[2]).findFirst().orElse(0);
    }

    private int decided(int node, int txn) {
        return logs.get(node).stream().filter(e -> e[0] == 2 && e[1] == txn).mapToInt(e -> e[2]).findFirst().orElse(0);
    }

    private int promised(int node, int txn) {
        return logs.get(node).stream().filter(e -> e[0] >= 3 && e[1] == txn).mapToInt(e -> e[2]).max().orElse(0);
    }

    private int[] acceptedLast(int node, int txn, int shard) {
        int[] found = null;
        for (int[] e : logs.get(node)) {
            if (e[0] == 4 && e[1] == txn && e[3] / 10 == shard) {
                found = new int[] {e[2], e[3] % 10};
            }
        }
        return found;
    }

    // ---- transactions

    int begin(int txn) {
        return step(txn, 0, 1);
    }

    private int step(int txn, int from, int to) {
        if (!in(txn, t)) {
            return BAD;
        }
        if (state[txn] != from) {
            return 0;
        }
        state[txn] = to;
        return 1;
    }

    private int lockFor(int txn, int key, boolean exclusive) {
        if (!in(txn, t) || !in(key, k)) {
            return BAD;
        }
        int shard = key % s;
        if (state[txn] != 1) {
            return 0;
        }
        if (down.contains(shard)) {
            return 3;
        }
        Map<Integer, Session> here = sessions.get(shard);
        if (touches.get(txn).contains(shard) && !here.containsKey(txn)) {
            return 4;
        }
        for (Map.Entry<Integer, Session> other : here.entrySet()) {
            boolean bars = exclusive ? other.getValue().has(key) : other.getValue().exclusive.contains(key);
            if (other.getKey() != txn && bars) {
                return 2;
            }
        }
        Session own = here.computeIfAbsent(txn, x -> new Session());
        touches.get(txn).add(shard);
        if (exclusive) {
            own.shared.remove(key);
            own.exclusive.add(key);
        } else if (!own.has(key)) {
            own.shared.add(key);
        }
        return 1;
    }

    long read(int txn, int key) {
        status = lockFor(txn, key, false);
        if (status != 1) {
            return 0;
        }
        return sessions.get(key % s).get(txn).fresh.getOrDefault(key, value[key]);
    }

    int readStatus() {
        return status;
    }

    int write(int txn, int key, long v) {
        int how = lockFor(txn, key, true);
        if (how == 1) {
            sessions.get(key % s).get(txn).fresh.put(key, v);
        }
        return how;
    }

    int requestCommit(int txn) {
        int how = step(txn, 1, 2);
        if (how != 1) {
            return how;
        }
        if (touches.get(txn).isEmpty()) {
            state[txn] = 3;
        }
        for (int shard : touches.get(txn)) {
            post(1, shard, txn, 0, 0, 0, s + a);
        }
        return touches.get(txn).size();
    }

    int abort(int txn) {
        int how = step(txn, 1, 4);
        if (how == 1) {
            for (int shard = 0; shard < s; shard++) {
                if (!down.contains(shard)) {
                    sessions.get(shard).remove(txn);
                }
            }
        }
        return how;
    }

    int outcome(int txn) {
        return in(txn, t) ? state[txn] : BAD;
    }

    long committedValue(int key) {
        return in(key, k) ? value[key] : 0;
    }

    // ---- messages and nodes

    private Letter post(int kind, int to, int txn, int ballot, int shard, int vote, int from) {
        Letter x = new Letter();
        x.kind = kind;
        x.to = to;
        x.txn = txn;
        x.ballot = ballot;
        x.shard = shard;
        x.vote = vote;
        x.from = from;
        put(x);
        return x;
    }

    private boolean put(Letter x) {
        posted++;
        if (pool.size() == m) {
            lost++;
            return false;
        }
        return pool.add(x);
    }

    private void postAll(int kind, int txn, int ballot, int shard, int vote, int from) {
        for (int i = 0; i < a; i++) {
            post(kind, s + i, txn, ballot, shard, vote, from);
        }
    }

    int deliver(int i) {
        if (!in(i, pool.size())) {
            return BAD;
        }
        delivered++;
        Letter x = pool.remove(i);
        if (x.to == s + a) {
            if (state[x.txn] == 2) {
                state[x.txn] = x.vote;
            }
            return 6;
        }
        if (down.contains(x.to)) {
            return 9;
        }
        boolean full = logs.get(x.to).size() == l;
        boolean mute = false;
        switch (x.kind) {
            case 1 -> mute = prepare(x, full);
            case 2 -> mute = vote(x, full);
            case 3 -> accepted(x);
            case 4 -> mute = ask(x, full);
            case 5 -> promise(x);
            default -> mute = end(x, full);
        }
        return mute ? 10 : x.kind;
    }

    private boolean prepare(Letter x, boolean full) {
        if (decided(x.to, x.txn) != 0) {
            return false;
        }
        if (voted(x.to, x.txn) == 0) {
            if (full) {
                return true;
            }
            Session own = sessions.get(x.to).get(x.txn);
            logs.get(x.to).add(new int[] {1, x.txn, own == null ? 2 : 1, 0});
            if (own != null) {
                own.shared.clear();
            }
        }
        postAll(2, x.txn, 0, x.to, voted(x.to, x.txn), x.to);
        return false;
    }

    private boolean vote(Letter x, boolean full) {
        if (x.ballot < promised(x.to, x.txn)) {
            return false;
        }
        int[] last = acceptedLast(x.to, x.txn, x.shard);
        if (last == null || last[0] != x.ballot || last[1] != x.vote) {
            if (full) {
                return true;
            }
            logs.get(x.to).add(new int[] {4, x.txn, x.ballot, 10 * x.shard + x.vote});
        }
        post(3, s + x.ballot % a, x.txn, x.ballot, x.shard, x.vote, x.to);
        return false;
    }

    private void accepted(Letter x) {
        Mind mind = mind(x.to, x.txn);
        if (mind.leads != x.ballot || mind.knows != 0) {
            return;
        }
        mind.counted.computeIfAbsent(x.shard, y -> new HashMap<>()).putIfAbsent(x.from, x.vote);
        int sure = 0;
        for (int shard : touches.get(x.txn)) {
            List<Integer> votes = new ArrayList<>(mind.counted.getOrDefault(shard, Map.of()).values());
            if (2 * votes.stream().filter(v -> v == 2).count() > a) {
                mind.knows = 4;
            }
            if (2 * votes.stream().filter(v -> v == 1).count() > a) {
                sure++;
            }
        }
        if (mind.knows == 0 && sure == touches.get(x.txn).size()) {
            mind.knows = 3;
        }
        if (mind.knows != 0) {
            for (int shard : touches.get(x.txn)) {
                post(6, shard, x.txn, 0, 0, mind.knows, x.to);
            }
            post(6, s + a, x.txn, 0, 0, mind.knows, x.to);
        }
    }

    private boolean ask(Letter x, boolean full) {
        int promised = promised(x.to, x.txn);
        if (x.ballot < promised) {
            return false;
        }
        if (x.ballot > promised) {
            if (full) {
                return true;
            }
            logs.get(x.to).add(new int[] {3, x.txn, x.ballot, 0});
        }
        Letter answer = post(5, s + x.ballot % a, x.txn, x.ballot, 0, 0, x.to);
        for (int shard = 0; shard < s; shard++) {
            int[] last = acceptedLast(x.to, x.txn, shard);
            if (last != null) {
                answer.told.put(shard, last);
            }
        }
        return false;
    }

    private void promise(Letter x) {
        Mind mind = mind(x.to, x.txn);
        if (mind.leads != x.ballot || mind.knows != 0 || 2 * mind.promisers.size() > a) {
            return;
        }
        mind.promisers.add(x.from);
        x.told.forEach((shard, last) -> mind.kept.merge(shard, last, (old, now) -> now[0] > old[0] ? now : old));
        if (2 * mind.promisers.size() > a) {
            for (int shard : touches.get(x.txn)) {
                int[] kept = mind.kept.get(shard);
                postAll(2, x.txn, x.ballot, shard, kept == null ? 2 : kept[1], x.to);
            }
        }
    }

    private boolean end(Letter x, boolean full) {
        if (decided(x.to, x.txn) != 0) {
            return false;
        }
        if (full) {
            return true;
        }
        logs.get(x.to).add(new int[] {2, x.txn, x.vote, 0});
        Session own = sessions.get(x.to).remove(x.txn);
        if (own != null && x.vote == 3) {
            own.fresh.forEach((key, v) -> value[key] = v);
        }
        return false;
    }

    int drop(int i) {
        return in(i, pool.size()) ? pool.remove(i).kind : BAD;
    }

    int twice(int i) {
        if (!in(i, pool.size())) {
            return BAD;
        }
        return put(pool.get(i).like()) ? pool.size() : 0;
    }

    int timeout(int node, int txn) {
        if (!isAcceptor(node) || !in(txn, t)) {
            return BAD;
        }
        Mind old = mind(node, txn);
        if (down.contains(node) || old.knows != 0 || state[txn] < 2 || touches.get(txn).isEmpty()
            || logs.get(node).size() == l) {
            return 0;
        }
        int b = 1;
        while (b % a != node - s || b <= old.leads || b <= promised(node, txn)) {
            b++;
        }
        minds.get(node).put(txn, new Mind(b));
        logs.get(node).add(new int[] {3, txn, b, 0});
        postAll(4, txn, b, 0, 0, node);
        return b;
    }

    int crash(int node) {
        if (!in(node, s + a)) {
            return BAD;
        }
        if (!down.add(node)) {
            return 0;
        }
        minds.get(node).clear();
        sessions.get(node).keySet().removeIf(txn -> voted(node, txn) != 1 || decided(node, txn) != 0);
        return 1;
    }

    int restart(int node) {
        if (!in(node, s + a)) {
            return BAD;
        }
        return down.remove(node) ? 1 : 0;
    }

    int pending() {
        return pool.size();
    }

    int play(long seed, int n) {
        if (!in(n, 401)) {
            return BAD;
        }
        BigInteger x = BigInteger.valueOf(seed);
        int done = 0;
        while (done < n && !pool.isEmpty()) {
            x = x.multiply(new BigInteger("6364136223846793005")).add(new BigInteger("1442695040888963407"));
            x = x.mod(BigInteger.ONE.shiftLeft(64));
            String bits = String.format("%64s", x.toString(2)).replace(' ', '0').substring(1, 32);
            deliver(new BigInteger(bits, 2).mod(BigInteger.valueOf(pool.size())).intValue());
            done++;
        }
        return done;
    }

    // ---- what is told

    int message(int i, int what) {
        if (!in(i, pool.size()) || !in(what, 7)) {
            return BAD;
        }
        Letter x = pool.get(i);
        return new int[] {x.kind, x.to, x.txn, x.ballot, x.shard, x.vote, x.from}[what];
    }

    int lock(int key, int what) {
        if (!in(key, k) || !in(what, 3)) {
            return BAD;
        }
        Set<Integer> holders = new TreeSet<>();
        int exclusive = 0;
        for (Map.Entry<Integer, Session> e : sessions.get(key % s).entrySet()) {
            if (e.getValue().has(key)) {
                holders.add(e.getKey());
            }
            if (e.getValue().exclusive.contains(key)) {
                exclusive = 1;
            }
        }
        if (what == 1) {
            return holders.isEmpty() ? BAD : holders.iterator().next();
        }
        return what == 0 ? holders.size() : exclusive;
    }

    int node(int node, int what) {
        if (!in(node, s + a)) {
            return BAD;
        }
        if (what == 0) {
            return down.contains(node) ? 0 : 1;
        }
        if (what == 1) {
            return logs.get(node).size();
        }
        if (!isAcceptor(node)) {
            return what == 2 ? sessions.get(node).size() : BAD;
        }
        int found = 0;
        for (int txn = 0; txn < t; txn++) {
            if (what == 3 ? promised(node, txn) == 0 : mind(node, txn).knows != 0) {
                found++;
            }
        }
        return what == 3 || what == 4 ? found : BAD;
    }

    int entry(int node, int i, int what) {
        if (!in(node, s + a) || !in(i, logs.get(node).size()) || !in(what, 4)) {
            return BAD;
        }
        return logs.get(node).get(i)[what];
    }

    int ballot(int node, int txn, int what) {
        if (!isAcceptor(node) || !in(txn, t) || !in(what, 4)) {
            return BAD;
        }
        Mind mind = mind(node, txn);
        return new int[] {promised(node, txn), mind.leads, mind.knows, mind.promisers.size()}[what];
    }

    int accepted(int node, int txn, int shard, int what) {
        if (!isAcceptor(node) || !in(txn, t) || !in(shard, s) || !in(what, 3)) {
            return BAD;
        }
        int[] last = acceptedLast(node, txn, shard);
        int counted = mind(node, txn).counted.getOrDefault(shard, Map.of()).size();
        return new int[] {last == null ? BAD : last[0], last == null ? 0 : last[1], counted}[what];
    }

    int count(int what) {
        if (!in(what, 9)) {
            return BAD;
        }
        int committed = 0;
        int aborted = 0;
        for (int x : state) {
            committed += x == 3 ? 1 : 0;
            aborted += x == 4 ? 1 : 0;
        }
        return new int[] {posted, lost, delivered, committed, aborted, s, a, t, k}[what];
    }
}
