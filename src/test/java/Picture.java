import java.util.ArrayList;
import java.util.LinkedHashMap;
import java.util.List;
import java.util.Map;

/** All that is told of a Store, each answer under the call that it answers. */
final class Picture {
    private final Map<String, Long> told = new LinkedHashMap<>();

    Picture(Store x) {
        for (int what = 0; what <= 8; what++) {
            told.put("count(" + what + ")", (long) x.count(what));
        }
        told.put("readStatus()", (long) x.readStatus());
        txnsAndKeys(x);
        messages(x);
        int shards = x.count(5);
        int nodes = shards + x.count(6);
        for (int node = 0; node < nodes; node++) {
            node(x, node, node < shards);
        }
    }

    private void txnsAndKeys(Store x) {
        int txns = x.count(7);
        for (int txn = 0; txn < txns; txn++) {
            told.put("outcome(" + txn + ")", (long) x.outcome(txn));
        }
        int keys = x.count(8);
        for (int key = 0; key < keys; key++) {
            told.put("committedValue(" + key + ")", x.committedValue(key));
            for (int what = 0; what <= 2; what++) {
                told.put("lock(" + key + ", " + what + ")", (long) x.lock(key, what));
            }
        }
    }

    private void messages(Store x) {
        int all = x.pending();
        told.put("pending()", (long) all);
        for (int i = 0; i < all; i++) {
            for (int what = 0; what <= 6; what++) {
                told.put("message(" + i + ", " + what + ")", (long) x.message(i, what));
            }
        }
    }

    private void node(Store x, int node, boolean isShard) {
        told.put("node(" + node + ", 0)", (long) x.node(node, 0));
        int entries = x.node(node, 1);
        told.put("node(" + node + ", 1)", (long) entries);
        for (int i = 0; i < entries; i++) {
            for (int what = 0; what <= 3; what++) {
                told.put("entry(" + node + ", " + i + ", " + what + ")", (long) x.entry(node, i, what));
            }
        }
        if (isShard) {
            told.put("node(" + node + ", 2)", (long) x.node(node, 2));
            return;
        }
        told.put("node(" + node + ", 3)", (long) x.node(node, 3));
        told.put("node(" + node + ", 4)", (long) x.node(node, 4));
        int txns = x.count(7);
        for (int txn = 0; txn < txns; txn++) {
            mind(x, node, txn);
        }
    }

    private void mind(Store x, int node, int txn) {
        for (int what = 0; what <= 3; what++) {
            told.put("ballot(" + node + ", " + txn + ", " + what + ")", (long) x.ballot(node, txn, what));
        }
        int shards = x.count(5);
        for (int shard = 0; shard < shards; shard++) {
            for (int what = 0; what <= 2; what++) {
                String call = "accepted(" + node + ", " + txn + ", " + shard + ", " + what + ")";
                told.put(call, (long) x.accepted(node, txn, shard, what));
            }
        }
    }

    /** What is told to be another answer. */
    Picture with(String call, long answer) {
        if (!told.containsKey(call)) {
            throw new IllegalStateException("nothing is told of " + call);
        }
        told.put(call, answer);
        return this;
    }

    /** What is told to be more by one. */
    Picture oneMore(String call) {
        return with(call, told.getOrDefault(call, 0L) + 1);
    }

    /** In which calls another picture answers otherwise. */
    List<String> unlike(Picture other) {
        List<String> found = new ArrayList<>();
        for (Map.Entry<String, Long> e : told.entrySet()) {
            Long answer = other.told.get(e.getKey());
            if (!e.getValue().equals(answer)) {
                found.add(e.getKey() + " due " + e.getValue() + " answered " + answer);
            }
        }
        for (String call : other.told.keySet()) {
            if (!told.containsKey(call)) {
                found.add(call + " answered " + other.told.get(call));
            }
        }
        return found;
    }
}
