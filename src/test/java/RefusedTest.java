import java.util.ArrayList;
import java.util.List;
import java.util.Map;
import java.util.function.Supplier;

/** Each call answered BAD, and each answered 0, with what it changes: nothing, but as told. */
public final class RefusedTest {
    private static final Due DUE = new Due("RefusedTest");
    private static final Twins TWINS = new Twins(DUE);
    private static final int BAD = CommitShards.BAD;
    private static final int MIN = Integer.MIN_VALUE;
    private static final int MAX = Integer.MAX_VALUE;
    private static final int CLIENT = 5;

    /** A call with what it is called, and what it is to answer. */
    private static final class Refused {
        final String name;
        final long want;
        final Twins.Call call;

        Refused(String name, long want, Twins.Call call) {
            this.name = name;
            this.want = want;
            this.call = call;
        }
    }

    public static void main(String[] args) {
        for (Map.Entry<String, Supplier<Store>> scene : Scenes.all().entrySet()) {
            badCalls(scene.getKey(), scene.getValue());
            badReads(scene.getKey(), scene.getValue());
        }
        badAheadOfZero();
        begin();
        readNotActive();
        readOfDownShard();
        readOfGoneSession();
        readNotGranted();
        writeNotActive();
        writeAtDownShard();
        writeOfGoneSession();
        writeNotGranted();
        requestCommitNotActive();
        requestCommitTouchingNone();
        abort();
        twiceLost();
        timeoutByOneThatIsDown();
        timeoutByOneThatKnows();
        timeoutOfIdle();
        timeoutOfActive();
        timeoutOfOneThatTouchesNone();
        timeoutWithFullLog();
        crashOfOneThatIsDown();
        restartOfOneThatIsUp();
        playOfNone();
        toldZeros();
        DUE.end();
    }

    // ---- BAD

    /** Numbers that are none of 0 .. bound - 1: those next to them, and the farthest. */
    private static int[] outOf(int bound) {
        return new int[] {-1, bound, MIN, MAX};
    }

    private static void badCalls(String scene, Supplier<Store> made) {
        Store x = made.get();
        int all = x.pending();
        List<Refused> calls = new ArrayList<>();
        badTxns(calls);
        badPlaces(calls, all);
        badNodes(calls);
        badKeys(calls);
        badEntries(calls, x);
        badMinds(calls);
        for (int n : new int[] {-1, 401, MIN, MAX}) {
            calls.add(new Refused("play(5, " + n + ")", BAD, y -> y.play(5, n)));
        }
        for (int what : outOf(9)) {
            calls.add(new Refused("count(" + what + ")", BAD, y -> y.count(what)));
        }
        for (Refused c : calls) {
            TWINS.changesNothing(scene + ": " + c.name, made, c.want, c.call);
        }
    }

    private static void badTxns(List<Refused> calls) {
        for (int txn : outOf(Scenes.TXNS)) {
            calls.add(new Refused("begin(" + txn + ")", BAD, y -> y.begin(txn)));
            calls.add(new Refused("write(" + txn + ", 0, 1)", BAD, y -> y.write(txn, 0, 1)));
            calls.add(new Refused("requestCommit(" + txn + ")", BAD, y -> y.requestCommit(txn)));
            calls.add(new Refused("abort(" + txn + ")", BAD, y -> y.abort(txn)));
            calls.add(new Refused("outcome(" + txn + ")", BAD, y -> y.outcome(txn)));
            calls.add(new Refused("timeout(2, " + txn + ")", BAD, y -> y.timeout(2, txn)));
            calls.add(new Refused("ballot(2, " + txn + ", 0)", BAD, y -> y.ballot(2, txn, 0)));
            calls.add(new Refused("accepted(2, " + txn + ", 0, 2)", BAD, y -> y.accepted(2, txn, 0, 2)));
        }
    }

    private static void badPlaces(List<Refused> calls, int all) {
        for (int i : outOf(all)) {
            calls.add(new Refused("deliver(" + i + ")", BAD, y -> y.deliver(i)));
            calls.add(new Refused("drop(" + i + ")", BAD, y -> y.drop(i)));
            calls.add(new Refused("twice(" + i + ")", BAD, y -> y.twice(i)));
            calls.add(new Refused("message(" + i + ", 0)", BAD, y -> y.message(i, 0)));
        }
        for (int what : outOf(7)) {
            calls.add(new Refused("message(0, " + what + ")", BAD, y -> y.message(0, what)));
        }
    }

    private static void badNodes(List<Refused> calls) {
        for (int node : outOf(CLIENT)) {
            calls.add(new Refused("crash(" + node + ")", BAD, y -> y.crash(node)));
            calls.add(new Refused("restart(" + node + ")", BAD, y -> y.restart(node)));
            for (int what = 0; what <= 4; what++) {
                int of = what;
                calls.add(new Refused("node(" + node + ", " + of + ")", BAD, y -> y.node(node, of)));
            }
        }
        for (int what : new int[] {-1, 3, 4, 5, MIN, MAX}) {
            calls.add(new Refused("node(1, " + what + ")", BAD, y -> y.node(1, what)));
        }
        for (int what : new int[] {-1, 2, 5, MIN, MAX}) {
            calls.add(new Refused("node(2, " + what + ")", BAD, y -> y.node(2, what)));
        }
    }

    private static void badKeys(List<Refused> calls) {
        for (int key : outOf(Scenes.KEYS)) {
            calls.add(new Refused("write(0, " + key + ", 1)", BAD, y -> y.write(0, key, 1)));
            calls.add(new Refused("committedValue(" + key + ")", 0, y -> y.committedValue(key)));
            for (int what = 0; what <= 2; what++) {
                int of = what;
                calls.add(new Refused("lock(" + key + ", " + of + ")", BAD, y -> y.lock(key, of)));
            }
        }
        for (int what : outOf(3)) {
            calls.add(new Refused("lock(0, " + what + ")", BAD, y -> y.lock(0, what)));
        }
    }

    private static void badEntries(List<Refused> calls, Store x) {
        for (int node : outOf(CLIENT)) {
            calls.add(new Refused("entry(" + node + ", 0, 0)", BAD, y -> y.entry(node, 0, 0)));
        }
        for (int node = 0; node < CLIENT; node++) {
            int of = node;
            for (int i : outOf(x.node(node, 1))) {
                calls.add(new Refused("entry(" + of + ", " + i + ", 0)", BAD, y -> y.entry(of, i, 0)));
            }
            for (int what : outOf(4)) {
                calls.add(new Refused("entry(" + of + ", 0, " + what + ")", BAD, y -> y.entry(of, 0, what)));
            }
        }
    }

    private static void badMinds(List<Refused> calls) {
        for (int node : new int[] {-1, 0, 1, CLIENT, MIN, MAX}) {
            calls.add(new Refused("timeout(" + node + ", 0)", BAD, y -> y.timeout(node, 0)));
            calls.add(new Refused("ballot(" + node + ", 0, 0)", BAD, y -> y.ballot(node, 0, 0)));
            calls.add(new Refused("accepted(" + node + ", 0, 0, 2)", BAD, y -> y.accepted(node, 0, 0, 2)));
        }
        for (int shard : outOf(2)) {
            calls.add(new Refused("accepted(2, 0, " + shard + ", 2)", BAD, y -> y.accepted(2, 0, shard, 2)));
        }
        for (int what : outOf(4)) {
            calls.add(new Refused("ballot(2, 0, " + what + ")", BAD, y -> y.ballot(2, 0, what)));
        }
        for (int what : outOf(3)) {
            calls.add(new Refused("accepted(2, 0, 0, " + what + ")", BAD, y -> y.accepted(2, 0, 0, what)));
        }
    }

    /** "0 where it does not, and of BAD"; readStatus() is BAD then. */
    private static void badReads(String scene, Supplier<Store> made) {
        for (int txn : outOf(Scenes.TXNS)) {
            read(scene + ": read(" + txn + ", 0)", made, BAD, txn, 0);
        }
        for (int key : outOf(Scenes.KEYS)) {
            read(scene + ": read(0, " + key + ")", made, BAD, 0, key);
        }
        read(scene + ": read(-1, -1)", made, BAD, -1, -1);
    }

    /** A read that is answered 0 and changes nothing but readStatus(). */
    private static void read(String what, Supplier<Store> made, int status, int txn, int key) {
        TWINS.changesOnly(what, made, 0, x -> x.read(txn, key), p -> p.with("readStatus()", status));
    }

    /** Where a call would be answered 0 and a number is not as told, it is BAD. */
    private static void badAheadOfZero() {
        Supplier<Store> idle = Scenes::fresh;
        TWINS.changesNothing("write of an idle TXN, no key", idle, BAD, x -> x.write(0, Scenes.KEYS, 1));
        TWINS.changesNothing("timeout of an idle TXN by no acceptor", idle, BAD, x -> x.timeout(1, 0));
        TWINS.changesNothing("timeout of no TXN by one that is down", Scenes::fallen, BAD, x -> x.timeout(3, 4));
        TWINS.changesNothing("message of none, no number of it", idle, BAD, x -> x.message(0, 7));
        TWINS.changesNothing("lock of none, no number of it", idle, BAD, x -> x.lock(0, 3));
        TWINS.changesNothing("play of none, too many", idle, BAD, x -> x.play(1, 401));
        TWINS.changesNothing("write at a shard that is down, no key", Scenes::fallen, BAD, x -> x.write(1, -1, 1));
    }

    // ---- 0

    /** Promise 2: "0: it is not IDLE". */
    private static void begin() {
        for (Map.Entry<String, Supplier<Store>> scene : Scenes.notActive().entrySet()) {
            if (!scene.getKey().equals("IDLE")) {
                TWINS.changesNothing("begin of one " + scene.getKey(), scene.getValue(), 0, x -> x.begin(0));
            }
        }
        TWINS.changesNothing("begin of one ACTIVE", Scenes::begun, 0, x -> x.begin(0));
    }

    /** Promise 3, 4: "0 it is not ACTIVE". */
    private static void readNotActive() {
        for (Map.Entry<String, Supplier<Store>> scene : Scenes.notActive().entrySet()) {
            read("read of one " + scene.getKey(), scene.getValue(), 0, 0, 0);
        }
    }

    /** TXN 0 has written KEY 0 and its SHARD fell; TXN 1 has touched nothing. */
    private static Store downShard() {
        Store x = Scenes.fresh();
        x.begin(0);
        x.write(0, 0, 7);
        x.begin(1);
        x.crash(0);
        return x;
    }

    /** "3 the SHARD is DOWN". */
    private static void readOfDownShard() {
        read("read at a shard that fell with the session", RefusedTest::downShard, 3, 0, 0);
        read("read at a shard that is down, untouched", RefusedTest::downShard, 3, 1, 0);
    }

    private static Store goneSession() {
        Store x = downShard();
        x.restart(0);
        x.write(1, 4, 9);
        return x;
    }

    /** "4 the TXN TOUCHES the SHARD, which has no SESSION of it any more". */
    private static void readOfGoneSession() {
        read("read of a gone session", RefusedTest::goneSession, 4, 0, 0);
        read("read of a gone session, another key", RefusedTest::goneSession, 4, 0, 2);
        read("read of a gone session, a key that is locked", RefusedTest::goneSession, 4, 0, 4);
    }

    /** TXN 0 has KEY 0 EXCLUSIVE; TXN 1 has KEY 2 SHARED, and so has TXN 2. */
    private static Store locked() {
        Store x = Scenes.fresh();
        for (int txn = 0; txn <= 2; txn++) {
            x.begin(txn);
        }
        x.write(0, 0, 7);
        x.read(1, 2);
        x.read(2, 2);
        return x;
    }

    /** "2 the LOCK is not granted": a SHARED one while another has it EXCLUSIVE. */
    private static void readNotGranted() {
        read("read of a key EXCLUSIVE", RefusedTest::locked, 2, 1, 0);
    }

    /** Promise 5: "0 .. 4 as told". */
    private static void writeNotActive() {
        for (Map.Entry<String, Supplier<Store>> scene : Scenes.notActive().entrySet()) {
            TWINS.changesNothing("write of one " + scene.getKey(), scene.getValue(), 0, x -> x.write(0, 0, 5));
        }
    }

    private static void writeAtDownShard() {
        TWINS.changesNothing("write at a shard that fell", RefusedTest::downShard, 3, x -> x.write(0, 0, 5));
        TWINS.changesNothing("write at a shard that is down", RefusedTest::downShard, 3, x -> x.write(1, 2, 5));
    }

    private static void writeOfGoneSession() {
        TWINS.changesNothing("write of a gone session", RefusedTest::goneSession, 4, x -> x.write(0, 0, 5));
        TWINS.changesNothing("write of a gone session, locked", RefusedTest::goneSession, 4, x -> x.write(0, 4, 5));
    }

    /** "2 the LOCK is not granted": an EXCLUSIVE one while another has it at all. */
    private static void writeNotGranted() {
        TWINS.changesNothing("write of a key EXCLUSIVE", RefusedTest::locked, 2, x -> x.write(1, 0, 5));
        TWINS.changesNothing("write of a key SHARED", RefusedTest::locked, 2, x -> x.write(0, 2, 5));
        TWINS.changesNothing("write of a key SHARED with another", RefusedTest::locked, 2, x -> x.write(1, 2, 5));
    }

    /** Promise 6: "0 also: it is not ACTIVE". */
    private static void requestCommitNotActive() {
        for (Map.Entry<String, Supplier<Store>> scene : Scenes.notActive().entrySet()) {
            TWINS.changesNothing("requestCommit of one " + scene.getKey(), scene.getValue(), 0, x -> x.requestCommit(0));
        }
    }

    /** Promise 6: "(none: it is COMMITTED)"; no MESSAGE is POSTED. */
    private static void requestCommitTouchingNone() {
        Supplier<Store> scene = () -> {
            Store x = Scenes.begun();
            x.begin(3);
            return x;
        };
        TWINS.changesOnly("requestCommit of one that touches none", scene, 0, x -> x.requestCommit(3),
            p -> p.with("outcome(3)", 3).oneMore("count(3)"));
    }

    /** Promise 7: "0: it is not ACTIVE". */
    private static void abort() {
        for (Map.Entry<String, Supplier<Store>> scene : Scenes.notActive().entrySet()) {
            TWINS.changesNothing("abort of one " + scene.getKey(), scene.getValue(), 0, x -> x.abort(0));
        }
    }

    /** Promise 12: "0: it was LOST"; it was POSTED all the same. */
    private static void twiceLost() {
        for (int i = 0; i <= 1; i++) {
            int place = i;
            TWINS.changesOnly("twice(" + i + ") with the pool full", Scenes::poolFull, 0, x -> x.twice(place),
                p -> p.oneMore("count(0)").oneMore("count(1)"));
        }
    }

    /** Promise 13: "0: it is DOWN", and what else is answered 0 there. */
    private static void timeoutByOneThatIsDown() {
        TWINS.changesNothing("timeout by one that is down", Scenes::fallen, 0, x -> x.timeout(3, 0));
    }

    private static void timeoutByOneThatKnows() {
        TWINS.changesNothing("timeout by one that knows COMMITTED", Scenes::known, 0, x -> x.timeout(2, 0));
        TWINS.changesNothing("timeout by one that knows ABORTED", Scenes::aborted, 0, x -> x.timeout(2, 0));
    }

    private static void timeoutOfIdle() {
        for (int node = 2; node <= 4; node++) {
            int by = node;
            TWINS.changesNothing("timeout of an idle one by " + node, Scenes::fresh, 0, x -> x.timeout(by, 0));
        }
    }

    private static void timeoutOfActive() {
        TWINS.changesNothing("timeout of an active one that touches", Scenes::begun, 0, x -> x.timeout(2, 0));
        Supplier<Store> untouching = () -> {
            Store x = Scenes.fresh();
            x.begin(0);
            return x;
        };
        TWINS.changesNothing("timeout of an active one that touches none", untouching, 0, x -> x.timeout(2, 0));
    }

    private static void timeoutOfOneThatTouchesNone() {
        TWINS.changesNothing("timeout of one committed, none touched", Scenes::touchesNone, 0, x -> x.timeout(3, 0));
        TWINS.changesNothing("timeout of one aborted, none touched", Scenes::touchesNoneAborted, 0, x -> x.timeout(3, 0));
    }

    /** "or its LOG has L ENTRIES"; another's log does not matter. */
    private static void timeoutWithFullLog() {
        TWINS.changesNothing("timeout with a full log", Scenes::logsFull, 0, x -> x.timeout(2, 0));
        DUE.be(1, Scenes.logsFull().timeout(3, 0), "timeout by one whose log is not full");
    }

    /** Promise 14: "0: it is DOWN". */
    private static void crashOfOneThatIsDown() {
        TWINS.changesNothing("crash of a shard that is down", Scenes::fallen, 0, x -> x.crash(1));
        TWINS.changesNothing("crash of an acceptor that is down", Scenes::fallen, 0, x -> x.crash(3));
    }

    /** Promise 15: "0: it is UP". */
    private static void restartOfOneThatIsUp() {
        for (Map.Entry<String, Supplier<Store>> scene : Scenes.all().entrySet()) {
            for (int node : new int[] {0, 2, 4}) {
                TWINS.changesNothing(scene.getKey() + ": restart of " + node, scene.getValue(), 0, x -> x.restart(node));
            }
        }
    }

    /** Promise 17: 0 of n 0, and where none is left. */
    private static void playOfNone() {
        TWINS.changesNothing("play(9, 0)", Scenes::asked, 0, x -> x.play(9, 0));
        TWINS.changesNothing("play(9, 0) with the pool full", Scenes::poolFull, 0, x -> x.play(9, 0));
        TWINS.changesNothing("play(9, 1) of none", Scenes::committed, 0, x -> x.play(9, 1));
        TWINS.changesNothing("play(9, 400) of none", Scenes::begun, 0, x -> x.play(9, 400));
        TWINS.changesNothing("play(9, 0) of none", Scenes::fresh, 0, x -> x.play(9, 0));
    }

    /** Whoever only asks is answered 0 where that is what there is, and changes nothing. */
    private static void toldZeros() {
        Supplier<Store> fresh = Scenes::fresh;
        TWINS.changesNothing("readStatus() before one", fresh, 0, x -> x.readStatus());
        TWINS.changesNothing("outcome of an idle one", fresh, 0, x -> x.outcome(3));
        TWINS.changesNothing("committedValue at first", fresh, 0, x -> x.committedValue(5));
        TWINS.changesNothing("pending of none", fresh, 0, x -> x.pending());
        TWINS.changesNothing("lock(5, 0) of none", fresh, 0, x -> x.lock(5, 0));
        TWINS.changesNothing("lock(5, 2) of none", fresh, 0, x -> x.lock(5, 2));
        TWINS.changesNothing("lock(2, 2) of one SHARED", Scenes::begun, 0, x -> x.lock(2, 2));
        TWINS.changesNothing("node(1, 0) of one down", Scenes::fallen, 0, x -> x.node(1, 0));
        TWINS.changesNothing("node(1, 1) with no entry", fresh, 0, x -> x.node(1, 1));
        TWINS.changesNothing("node(1, 2) with no session", fresh, 0, x -> x.node(1, 2));
        TWINS.changesNothing("node(4, 4) knowing no end", fresh, 0, x -> x.node(4, 4));
        TWINS.changesNothing("ballot(4, 3, 2) knowing no end", fresh, 0, x -> x.ballot(4, 3, 2));
        TWINS.changesNothing("accepted(4, 3, 1, 2) counting none", fresh, 0, x -> x.accepted(4, 3, 1, 2));
        for (int what = 0; what <= 4; what++) {
            int of = what;
            TWINS.changesNothing("count(" + what + ") at first", fresh, 0, x -> x.count(of));
        }
    }
}
