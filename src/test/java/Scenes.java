import java.util.LinkedHashMap;
import java.util.Map;
import java.util.function.Supplier;

/** Stores that have come some way: SHARDS are nodes 0, 1; ACCEPTORS nodes 2, 3, 4; THE CLIENT is node 5. */
final class Scenes {
    static final int TXNS = 4;
    static final int KEYS = 6;

    private Scenes() {
    }

    static Store fresh(int pool, int log) {
        return new Store(2, 3, TXNS, KEYS, pool, log);
    }

    static Store fresh() {
        return fresh(20, 20);
    }

    /** TXN 0 writes at both SHARDS, and reads KEY 2, as TXN 1 does. */
    static Store begun(int pool, int log) {
        Store x = fresh(pool, log);
        x.begin(0);
        x.write(0, 0, 7);
        x.write(0, 1, 8);
        x.read(0, 2);
        x.begin(1);
        x.read(1, 2);
        return x;
    }

    static Store begun() {
        return begun(20, 20);
    }

    /** PREPARE to 0, to 1. */
    static Store asked(int pool, int log) {
        Store x = begun(pool, log);
        x.requestCommit(0);
        return x;
    }

    static Store asked() {
        return asked(20, 20);
    }

    /** VOTE of SHARD 0 to 2, 3, 4, of SHARD 1 to 2, 3, 4. */
    static Store voted() {
        Store x = asked();
        x.deliverFirst(2);
        return x;
    }

    /** ACCEPTED to 2: of SHARD 0 by 2, 3, 4, of SHARD 1 by 2, 3, 4. */
    static Store accepting() {
        Store x = voted();
        x.deliverFirst(6);
        return x;
    }

    /** One ACCEPTED is counted, and comes again at the end. */
    static Store counting() {
        Store x = accepting();
        x.twice(0);
        x.deliver(0);
        return x;
    }

    /** ACCEPTED of SHARD 1 by 4, then END to 0, 1, 5. */
    static Store known() {
        Store x = accepting();
        x.deliverFirst(5);
        return x;
    }

    static Store committed() {
        Store x = asked();
        x.play(1, 400);
        return x;
    }

    /** SHARD 1 fell and has no SESSION: VOTE YES of SHARD 0, VOTE NO of SHARD 1, to 2, 3, 4. */
    static Store votedNo() {
        Store x = asked();
        x.fallAndRise(1);
        x.deliverFirst(2);
        return x;
    }

    static Store aborted() {
        Store x = votedNo();
        x.play(1, 400);
        return x;
    }

    static Store abortedByClient() {
        Store x = begun();
        x.abort(0);
        return x;
    }

    static Store touchesNone() {
        Store x = fresh();
        x.begin(0);
        x.requestCommit(0);
        return x;
    }

    static Store touchesNoneAborted() {
        Store x = fresh();
        x.begin(0);
        x.abort(0);
        return x;
    }

    /** 2 accepted YES of SHARD 0 at 0; 3 leads 1 and has 2's PROMISE of it; PROMISE by 3, by 4 to 3, then one again. */
    static Store takenOver() {
        Store x = asked();
        x.deliver(0);
        x.drop(0);
        x.deliver(0);
        x.dropAll();
        x.timeout(3, 0);
        x.deliverFirst(3);
        x.twice(0);
        x.deliver(0);
        return x;
    }

    /** Nodes 1, 3 are DOWN: PREPARE to 1, VOTE of SHARD 0 to 2, 3, 4. */
    static Store fallen() {
        Store x = asked();
        x.deliver(0);
        x.crash(1);
        x.crash(3);
        return x;
    }

    /** The two PREPARES fill THE POOL. */
    static Store poolFull() {
        return asked(2, 20);
    }

    /** Nodes 0, 1, 2 have the one ENTRY that they can have: VOTES to 2 .. 4, then ACCEPTED to 2. */
    static Store logsFull() {
        Store x = asked(20, 1);
        x.deliverFirst(3);
        return x;
    }

    /** TXN 0 in each STATE but ACTIVE. */
    static Map<String, Supplier<Store>> notActive() {
        Map<String, Supplier<Store>> all = new LinkedHashMap<>();
        all.put("IDLE", Scenes::fresh);
        all.put("ASKED", Scenes::asked);
        all.put("COMMITTED", Scenes::committed);
        all.put("COMMITTED, touching none", Scenes::touchesNone);
        all.put("ABORTED", Scenes::aborted);
        all.put("ABORTED by the client", Scenes::abortedByClient);
        return all;
    }

    static Map<String, Supplier<Store>> all() {
        Map<String, Supplier<Store>> all = notActive();
        all.put("begun", Scenes::begun);
        all.put("voted", Scenes::voted);
        all.put("voted no", Scenes::votedNo);
        all.put("accepting", Scenes::accepting);
        all.put("counting", Scenes::counting);
        all.put("known", Scenes::known);
        all.put("taken over", Scenes::takenOver);
        all.put("fallen", Scenes::fallen);
        all.put("pool full", Scenes::poolFull);
        all.put("logs full", Scenes::logsFull);
        return all;
    }
}
