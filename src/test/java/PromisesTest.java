/** Each promise of the document, by hand: ordinary inputs, the edges that it names, and wrong inputs. */
public final class PromisesTest {
    private static final Due DUE = new Due("PromisesTest");
    private static final int BAD = CommitShards.BAD;
    private static final int MIN = Integer.MIN_VALUE;
    private static final int MAX = Integer.MAX_VALUE;
    // A bound for loops that a right program leaves much sooner, so that a wrong one fails and does not hang.
    private static final int ENOUGH = 250;

    // In most runs: shards are nodes 0, 1; acceptors nodes 2, 3, 4; the client is node 5.
    private static CommitShards usual() {
        return new CommitShards(2, 3, 4, 6, 100, 100);
    }

    /** TXN 0 has written KEY 0 (SHARD 0) and KEY 1 (SHARD 1), and asked. */
    private static CommitShards asked() {
        CommitShards x = usual();
        x.begin(0);
        x.write(0, 0, 7);
        x.write(0, 1, 8);
        x.requestCommit(0);
        return x;
    }

    public static void main(String[] args) {
        newObject();
        begin();
        read();
        readStatus();
        write();
        locks();
        requestCommit();
        abort();
        outcome();
        committedValue();
        deliverPrepare();
        deliverPrepareWithoutSession();
        deliverVote();
        deliverAccepted();
        deliverAcceptedNo();
        deliverAsk();
        olderAsksAndVotes();
        deliverPromise();
        notLeading();
        keepsGreatest();
        keepsGreatestAgain();
        voteAbovePromise();
        sameVoteOfGreaterBallot();
        keptBallotsForgotten();
        promiseTellsAsOfThen();
        deliverEnd();
        endTwice();
        downNode();
        muteShard();
        muteAcceptor();
        drop();
        twice();
        twiceOfPromise();
        timeout();
        timeoutRefused();
        crashShard();
        votesStay();
        crashAcceptor();
        keptVotesForgotten();
        restart();
        pending();
        play();
        message();
        lock();
        node();
        entry();
        ballot();
        accepted();
        count();
        DUE.end();
    }

    // ---- 1

    private static void sizes(CommitShards x, int s, int a, int t, int k, String how) {
        DUE.be(s, x.count(5), how + " S");
        DUE.be(a, x.count(6), how + " A");
        DUE.be(t, x.count(7), how + " T");
        DUE.be(k, x.count(8), how + " K");
    }

    private static void newObject() {
        sizes(new CommitShards(3, 5, 9, 20, 1, 1), 3, 5, 9, 20, "as told");
        sizes(new CommitShards(1, 1, 1, 1, 1, 1), 1, 1, 1, 1, "least");
        sizes(new CommitShards(4, 5, 16, 32, 200, 200), 4, 5, 16, 32, "greatest");
        sizes(new CommitShards(0, 0, 0, 0, 0, 0), 1, 1, 1, 1, "zeros");
        sizes(new CommitShards(5, 6, 17, 33, 201, 201), 4, 5, 16, 32, "one above");
        sizes(new CommitShards(MIN, MIN, MIN, MIN, MIN, MIN), 1, 1, 1, 1, "far below");
        sizes(new CommitShards(MAX, MAX, MAX, MAX, MAX, MAX), 4, 5, 16, 32, "far above");
        DUE.be(1, new CommitShards(1, 2, 1, 1, 1, 1).count(6), "A of 2");
        DUE.be(3, new CommitShards(1, 3, 1, 1, 1, 1).count(6), "A of 3");
        DUE.be(3, new CommitShards(1, 4, 1, 1, 1, 1).count(6), "A of 4");
        poolAndLogSizes();
        CommitShards x = usual();
        DUE.be(0, x.pending(), "new: pending()");
        DUE.be(0, x.outcome(0), "new: outcome(0)");
        DUE.be(0, x.readStatus(), "new: readStatus()");
        DUE.be(0, x.committedValue(5), "new: committedValue(5)");
        for (int i = 0; i < 5; i++) {
            DUE.be(0, x.count(i), "new: count(" + i + ")");
            DUE.be(1, x.node(i, 0), "new: up");
            DUE.be(0, x.node(i, 1), "new: entries");
            DUE.be(BAD, x.entry(i, 0, 0), "new: entry");
        }
    }

    private static void poolAndLogSizes() {
        int[][] wishes = {{MIN, 1}, {0, 1}, {1, 1}, {2, 2}, {199, 199}, {200, 200}, {201, 200}, {MAX, 200}};
        for (int[] wish : wishes) {
            CommitShards x = new CommitShards(1, 1, 1, 1, wish[0], 200);
            x.begin(0);
            x.write(0, 0, 1);
            x.requestCommit(0);
            for (int i = 0; i < 250; i++) {
                x.twice(0);
            }
            DUE.be(wish[1], x.pending(), "M of " + wish[0]);
            x = new CommitShards(1, 1, 1, 1, 200, wish[0]);
            x.begin(0);
            x.write(0, 0, 1);
            x.requestCommit(0);
            for (int i = 0; i < 250; i++) {
                x.timeout(1, 0);
                x.drop(1);
            }
            DUE.be(wish[1], x.node(1, 1), "L of " + wish[0]);
        }
    }

    // ---- 2 .. 9

    private static void begin() {
        CommitShards x = usual();
        DUE.be(1, x.begin(0), "begin of an idle one");
        DUE.be(1, x.outcome(0), "it is active");
        DUE.be(0, x.begin(0), "begin of an active one");
        DUE.be(1, x.begin(3), "begin of the last");
        x.abort(0);
        DUE.be(0, x.begin(0), "begin of an aborted one");
        DUE.be(4, x.outcome(0), "it stays aborted");
        x.write(3, 0, 1);
        x.requestCommit(3);
        DUE.be(0, x.begin(3), "begin of an asked one");
        x.begin(1);
        x.requestCommit(1);
        DUE.be(0, x.begin(1), "begin of a committed one");
        for (int bad : new int[] {-1, 4, MIN, MAX}) {
            DUE.be(BAD, x.begin(bad), "begin(" + bad + ")");
        }
    }

    private static void read() {
        CommitShards x = usual();
        DUE.be(0, x.read(0, 0), "read of an idle one");
        x.begin(0);
        DUE.be(0, x.read(0, 0), "read of a value");
        x.write(0, 0, 42);
        DUE.be(42, x.read(0, 0), "read of a new value");
        x.write(0, 0, Long.MIN_VALUE);
        DUE.be(Long.MIN_VALUE, x.read(0, 0), "read of the newest value");
        x.write(0, 2, 0);
        x.requestCommit(0);
        DUE.be(0, x.read(0, 0), "read of an asked one");
        x.play(1, 400);
        x.begin(1);
        DUE.be(Long.MIN_VALUE, x.read(1, 0), "read of a committed value");
        x.begin(2);
        x.write(2, 4, 9);
        DUE.be(0, x.read(1, 4), "read of a key locked exclusive");
        DUE.be(2, x.readStatus(), "not granted");
        DUE.be(0, x.read(1, 2), "read of a key written 0");
        DUE.be(1, x.readStatus(), "granted");
    }

    private static void readStatus() {
        CommitShards x = usual();
        DUE.be(0, x.readStatus(), "before one");
        x.begin(0);
        x.read(0, 0);
        DUE.be(1, x.readStatus(), "it reads");
        int[][] wrong = {{-1, 0}, {4, 0}, {0, -1}, {0, 6}, {MIN, MIN}, {MAX, MAX}};
        for (int[] w : wrong) {
            x.read(0, 0);
            DUE.be(0, x.read(w[0], w[1]), "read of bad");
            DUE.be(BAD, x.readStatus(), "bad");
        }
        x.read(1, 0);
        DUE.be(0, x.readStatus(), "not active");
        x.crash(0);
        x.read(0, 0);
        DUE.be(3, x.readStatus(), "down ahead of gone");
        x.write(0, 1, 1);
        DUE.be(3, x.readStatus(), "write() changes nothing of it");
        x.restart(0);
        x.read(0, 0);
        DUE.be(4, x.readStatus(), "the session is gone");
        x.begin(1);
        x.write(1, 0, 3);
        x.read(0, 0);
        DUE.be(4, x.readStatus(), "gone ahead of not granted");
        x.abort(0);
        x.read(0, 0);
        DUE.be(0, x.readStatus(), "not active ahead of gone");
        x.crash(0);
        x.read(0, 0);
        DUE.be(0, x.readStatus(), "not active ahead of down");
    }

    private static void write() {
        CommitShards x = usual();
        DUE.be(0, x.write(0, 0, 5), "write of an idle one");
        x.begin(0);
        x.begin(1);
        DUE.be(1, x.write(0, 0, 5), "write");
        DUE.be(0, x.committedValue(0), "nothing is committed");
        DUE.be(2, x.write(1, 0, 6), "write of a key locked");
        DUE.be(5, x.read(0, 0), "what is refused changes nothing");
        DUE.be(1, x.node(0, 2), "who is refused has no session");
        DUE.be(0, x.requestCommit(1), "who is refused touches nothing");
        int[][] wrong = {{-1, 0}, {4, 0}, {0, -1}, {0, 6}, {MIN, MIN}, {MAX, MAX}};
        for (int[] w : wrong) {
            DUE.be(BAD, x.write(w[0], w[1], 1), "write of bad");
        }
        x.crash(0);
        DUE.be(3, x.write(0, 0, 5), "write at a shard that is down");
        DUE.be(1, x.write(0, 1, 5), "write at the other");
        x.restart(0);
        DUE.be(4, x.write(0, 2, 5), "write where the session is gone");
        DUE.be(0, x.lock(2, 0), "no lock then");
        x.begin(2);
        x.crash(0);
        DUE.be(3, x.write(2, 0, 5), "down to a new one");
        x.restart(0);
        DUE.be(1, x.write(2, 0, 5), "that touched nothing of it");
    }

    private static void locks() {
        CommitShards x = usual();
        for (int t = 0; t < 3; t++) {
            x.begin(t);
            x.read(t, 0);
            DUE.be(1, x.readStatus(), "shared by any");
        }
        DUE.be(2, x.write(0, 0, 1), "no upgrade while others share");
        DUE.be(3, x.lock(0, 0), "who was refused keeps its shared lock");
        x.abort(1);
        x.abort(2);
        DUE.be(1, x.write(0, 0, 1), "an upgrade alone");
        DUE.be(1, x.lock(0, 2), "then exclusive");
        x.read(0, 0);
        DUE.be(1, x.lock(0, 2), "a read leaves it exclusive");
        x.begin(3);
        x.read(3, 0);
        DUE.be(2, x.readStatus(), "not granted");
        x.read(3, 2);
        DUE.be(2, x.write(0, 2, 1), "no exclusive lock of a shared key");
        DUE.be(1, x.write(3, 4, 1), "nor does it hinder others");
    }

    private static void requestCommit() {
        CommitShards x = usual();
        DUE.be(0, x.requestCommit(0), "requestCommit of an idle one");
        x.begin(0);
        DUE.be(0, x.requestCommit(0), "requestCommit of one that touches nothing");
        DUE.be(3, x.outcome(0), "it is committed");
        DUE.be(0, x.pending(), "and nothing posted");
        x.begin(1);
        x.read(1, 1);
        DUE.be(1, x.requestCommit(1), "requestCommit of a reader");
        DUE.be(2, x.outcome(1), "it is asked");
        messageIs(x, 0, 1, 1, 1, 0, 0, 0, 5);
        DUE.be(0, x.requestCommit(1), "requestCommit of an asked one");
        x.begin(2);
        x.write(2, 3, 1);
        x.write(2, 0, 1);
        DUE.be(2, x.requestCommit(2), "requestCommit of one that touches two");
        messageIs(x, 1, 1, 0, 2, 0, 0, 0, 5);
        messageIs(x, 2, 1, 1, 2, 0, 0, 0, 5);
        DUE.be(3, x.pending(), "all posted");
        for (int bad : new int[] {-1, 4, MIN, MAX}) {
            DUE.be(BAD, x.requestCommit(bad), "requestCommit(" + bad + ")");
        }
        x = new CommitShards(4, 1, 1, 4, 2, 9);
        x.begin(0);
        for (int key = 0; key < 4; key++) {
            x.write(0, key, 1);
        }
        DUE.be(4, x.requestCommit(0), "how many, lost ones too");
        DUE.be(2, x.count(1), "two are lost");
        x = usual();
        x.begin(0);
        x.write(0, 0, 1);
        x.crash(0);
        DUE.be(1, x.requestCommit(0), "it touches still what it touched");
    }

    private static void abort() {
        CommitShards x = usual();
        DUE.be(0, x.abort(0), "abort of an idle one");
        x.begin(0);
        x.write(0, 0, 1);
        x.write(0, 1, 1);
        DUE.be(1, x.abort(0), "abort");
        DUE.be(4, x.outcome(0), "it is aborted");
        DUE.be(0, x.lock(0, 0) + x.lock(1, 0), "no lock stays");
        DUE.be(0, x.node(0, 2) + x.node(1, 2), "no session stays");
        DUE.be(0, x.pending(), "nothing is posted");
        DUE.be(0, x.abort(0), "abort of an aborted one");
        x.begin(1);
        DUE.be(0, x.read(1, 0), "its new values are gone");
        DUE.be(1, x.write(1, 1, 4), "its locks are gone");
        x.requestCommit(1);
        DUE.be(0, x.abort(1), "abort of an asked one");
        DUE.be(2, x.outcome(1), "it stays asked");
        DUE.be(1, x.lock(1, 0), "and locks stay");
        for (int bad : new int[] {-1, 4, MIN, MAX}) {
            DUE.be(BAD, x.abort(bad), "abort(" + bad + ")");
        }
        x = usual();
        x.begin(0);
        x.begin(1);
        x.write(0, 0, 1);
        x.write(1, 2, 1);
        x.abort(0);
        DUE.be(1, x.lock(2, 0), "others keep their locks");
    }

    private static void outcome() {
        CommitShards x = asked();
        DUE.be(2, x.outcome(0), "asked");
        DUE.be(0, x.outcome(1), "idle");
        x.begin(1);
        DUE.be(1, x.outcome(1), "active");
        x.play(3, 400);
        DUE.be(3, x.outcome(0), "committed");
        x.abort(1);
        DUE.be(4, x.outcome(1), "aborted");
        for (int bad : new int[] {-1, 4, MIN, MAX}) {
            DUE.be(BAD, x.outcome(bad), "outcome(" + bad + ")");
        }
    }

    private static void committedValue() {
        CommitShards x = asked();
        DUE.be(0, x.committedValue(0), "not yet");
        x.play(3, 400);
        DUE.be(7, x.committedValue(0), "key 0");
        DUE.be(8, x.committedValue(1), "key 1");
        DUE.be(0, x.committedValue(2), "key 2");
        x.crash(0);
        DUE.be(7, x.committedValue(0), "a value stays");
        for (int bad : new int[] {-1, 6, MIN, MAX}) {
            DUE.be(0, x.committedValue(bad), "committedValue(" + bad + ")");
        }
    }

    // ---- 10: what each message does

    private static void messageIs(CommitShards x, int i, int kind, int to, int txn, int ballot, int shard, int vote, int from) {
        int[] want = {kind, to, txn, ballot, shard, vote, from};
        for (int what = 0; what < want.length; what++) {
            DUE.be(want[what], x.message(i, what), "message(" + i + ", " + what + ")");
        }
    }

    private static void entryIs(CommitShards x, int node, int i, int kind, int first, int second, int third) {
        int[] want = {kind, first, second, third};
        for (int what = 0; what < want.length; what++) {
            DUE.be(want[what], x.entry(node, i, what), "entry(" + node + ", " + i + ", " + what + ")");
        }
    }

    private static void deliverPrepare() {
        CommitShards x = usual();
        x.begin(0);
        x.read(0, 0);
        x.write(0, 2, 7);
        x.requestCommit(0);
        x.twice(0);
        x.twice(0);
        DUE.be(1, x.deliver(0), "a prepare");
        DUE.be(5, x.pending(), "taken out, three posted");
        for (int i = 0; i < 3; i++) {
            messageIs(x, 2 + i, 2, 2 + i, 0, 0, 0, 1, 0);
        }
        entryIs(x, 0, 0, 1, 0, 1, 0);
        DUE.be(0, x.lock(0, 0), "its shared lock goes");
        DUE.be(1, x.lock(2, 2), "its exclusive lock stays");
        DUE.be(1, x.node(0, 2), "its session stays");
        DUE.be(1, x.deliver(0), "a prepare again");
        DUE.be(1, x.node(0, 1), "no other entry");
        DUE.be(7, x.pending(), "the vote is posted again");
        messageIs(x, 4, 2, 2, 0, 0, 0, 1, 0);
        x.deliver(1);
        x.deliver(3);
        for (int i = 0; i < ENOUGH && x.message(1, 0) != 6; i++) {
            x.deliver(1);
        }
        x.deliver(1);
        DUE.be(2, x.node(0, 1), "decided");
        int before = x.pending();
        DUE.be(1, x.deliver(0), "a prepare when it is decided");
        DUE.be(before - 1, x.pending(), "posts nothing");
        DUE.be(BAD, x.deliver(-1), "deliver(-1)");
        DUE.be(BAD, x.deliver(x.pending()), "deliver of one behind the last");
        DUE.be(BAD, x.deliver(MIN) & x.deliver(MAX), "deliver of far ones");
    }

    private static void deliverPrepareWithoutSession() {
        CommitShards x = asked();
        x.crash(1);
        x.restart(1);
        DUE.be(1, x.deliver(1), "a prepare without a session");
        entryIs(x, 1, 0, 1, 0, 2, 0);
        messageIs(x, 1, 2, 2, 0, 0, 1, 2, 1);
        messageIs(x, 3, 2, 4, 0, 0, 1, 2, 1);
        x.play(9, 400);
        DUE.be(4, x.outcome(0), "aborted by one no");
        DUE.be(0, x.committedValue(0), "and nothing is done");
        DUE.be(0, x.lock(0, 0), "and no lock stays");
    }

    private static void deliverVote() {
        CommitShards x = asked();
        x.deliver(0);
        x.twice(1);
        DUE.be(2, x.deliver(1), "a vote");
        entryIs(x, 2, 0, 4, 0, 0, 1);
        messageIs(x, 4, 3, 2, 0, 0, 0, 1, 2);
        DUE.be(0, x.accepted(2, 0, 0, 0), "accepted at ballot 0");
        DUE.be(1, x.accepted(2, 0, 0, 1), "yes");
        DUE.be(2, x.deliver(3), "the same vote");
        DUE.be(1, x.node(2, 1), "no other entry");
        messageIs(x, 4, 3, 2, 0, 0, 0, 1, 2);
        DUE.be(2, x.deliver(1), "a vote to another");
        messageIs(x, 4, 3, 2, 0, 0, 0, 1, 3);
        DUE.be(4, x.node(3, 3), "accepting at 0 promises nothing above");
    }

    private static void deliverAccepted() {
        CommitShards x = asked();
        x.deliver(0);
        x.deliver(0);
        for (int i = 0; i < 6; i++) {
            DUE.be(2, x.deliver(0), "vote " + i);
        }
        // 3 accepted of shard 0, then 3 of shard 1, each to node 2
        x.twice(0);
        DUE.be(3, x.deliver(0), "accepted");
        DUE.be(1, x.accepted(2, 0, 0, 2), "one is counted");
        DUE.be(3, x.deliver(5), "accepted twice");
        DUE.be(1, x.accepted(2, 0, 0, 2), "once");
        x.deliver(0);
        DUE.be(2, x.accepted(2, 0, 0, 2), "two are counted");
        x.deliver(1);
        DUE.be(0, x.ballot(2, 0, 2), "no majority for the other shard");
        DUE.be(3, x.pending(), "nothing posted");
        x.deliver(1);
        DUE.be(3, x.ballot(2, 0, 2), "it knows committed");
        DUE.be(5, x.pending(), "three ends behind two accepted");
        messageIs(x, 2, 6, 0, 0, 0, 0, 3, 2);
        messageIs(x, 3, 6, 1, 0, 0, 0, 3, 2);
        messageIs(x, 4, 6, 5, 0, 0, 0, 3, 2);
        x.deliver(0);
        x.deliver(0);
        DUE.be(2, x.accepted(2, 0, 0, 2), "who knows counts no more");
        DUE.be(3, x.pending(), "nor posts again");
        DUE.be(2, x.outcome(0), "the client has not heard");
        x.deliver(2);
        DUE.be(3, x.outcome(0), "the client has heard");
    }

    private static void deliverAcceptedNo() {
        CommitShards x = asked();
        x.crash(1);
        x.restart(1);
        x.deliver(1);
        x.deliver(1);
        x.deliver(1);
        DUE.be(3, x.deliver(2), "accepted, no");
        DUE.be(0, x.ballot(2, 0, 2), "one of three is no majority");
        DUE.be(3, x.deliver(2), "accepted, no, of another");
        DUE.be(4, x.ballot(2, 0, 2), "a majority for one shard is enough");
        messageIs(x, 2, 6, 0, 0, 0, 0, 4, 2);
        messageIs(x, 4, 6, 5, 0, 0, 0, 4, 2);
        DUE.be(5, x.pending(), "prepare, vote, three ends");
        DUE.be(6, x.deliver(2), "end to shard 0");
        entryIs(x, 0, 0, 2, 0, 4, 0);
        DUE.be(1, x.deliver(0), "a prepare behind the end");
        DUE.be(1, x.node(0, 1), "does nothing");
        DUE.be(0, x.node(0, 2), "the session has ended");
    }

    private static void deliverAsk() {
        CommitShards x = asked();
        sent(x, 1, 0);
        sent(x, 2, 2);
        dropAll(x);
        DUE.be(1, x.timeout(3, 0), "acceptor 1 takes over");
        messageIs(x, 0, 4, 2, 0, 1, 0, 0, 3);
        x.twice(0);
        DUE.be(4, sent(x, 4, 2), "an ask");
        entryIs(x, 2, 1, 3, 0, 1, 0);
        DUE.be(1, x.ballot(2, 0, 0), "it promised 1");
        messageIs(x, x.pending() - 1, 5, 3, 0, 1, 0, 0, 2);
        DUE.be(4, sent(x, 4, 2), "the same ask");
        DUE.be(2, x.node(2, 1), "no other entry");
        messageIs(x, x.pending() - 1, 5, 3, 0, 1, 0, 0, 2);
        DUE.be(4, x.pending(), "two asks, two promises");
        DUE.be(4, sent(x, 4, 3), "an ask of one's own");
        DUE.be(1, x.node(3, 1), "was promised when it took over");
        messageIs(x, x.pending() - 1, 5, 3, 0, 1, 0, 0, 3);
    }

    private static void olderAsksAndVotes() {
        CommitShards x = asked();
        sent(x, 1, 0);
        x.timeout(3, 0);
        DUE.be(2, x.timeout(4, 0), "acceptor 2 takes over");
        int asks = find(x, 4, 2);
        DUE.be(1, x.message(asks, 3), "of ballot 1");
        x.deliver(asks + 3);
        DUE.be(2, x.ballot(2, 0, 0), "ballot 2 came first");
        int before = x.pending();
        DUE.be(4, sent(x, 4, 2), "an ask below what is promised");
        DUE.be(before - 1, x.pending(), "is not answered");
        DUE.be(1, x.node(2, 1), "nor written");
        DUE.be(2, sent(x, 2, 2), "a vote below what is promised");
        DUE.be(before - 2, x.pending(), "is not answered");
        DUE.be(1, x.node(2, 1), "nor written");
        DUE.be(BAD, x.accepted(2, 0, 0, 0), "nor accepted");
    }

    private static void deliverPromise() {
        CommitShards x = asked();
        dropAll(x);
        x.timeout(2, 0);
        x.deliver(0);
        x.deliver(0);
        x.deliver(0);
        x.twice(0);
        DUE.be(5, x.deliver(0), "a promise");
        DUE.be(1, x.ballot(2, 0, 3), "one is counted");
        DUE.be(5, x.deliver(2), "the same promise");
        DUE.be(1, x.ballot(2, 0, 3), "once");
        DUE.be(2, x.pending(), "no majority yet");
        DUE.be(5, x.deliver(0), "a second promise");
        DUE.be(2, x.ballot(2, 0, 3), "two are counted");
        DUE.be(7, x.pending(), "three votes for each of two shards");
        for (int i = 0; i < 6; i++) {
            messageIs(x, 1 + i, 2, 2 + i % 3, 0, 3, i / 3, 2, 2);
        }
        DUE.be(5, x.deliver(0), "a third promise");
        DUE.be(2, x.ballot(2, 0, 3), "is not counted");
        DUE.be(6, x.pending(), "nor anything posted");
        x.play(5, 400);
        DUE.be(4, x.outcome(0), "no, if none tells one");
    }

    /** Who does not lead the ballot hears neither promises nor accepted. */
    private static void notLeading() {
        CommitShards x = asked();
        sent(x, 1, 0);
        sent(x, 2, 3);
        x.timeout(3, 0);
        sent(x, 4, 4);
        DUE.be(4, x.timeout(3, 0), "acceptor 1 takes over again");
        DUE.be(5, sent(x, 5, 3), "a promise of ballot 1");
        DUE.be(0, x.ballot(3, 0, 3), "is not counted for ballot 4");
        DUE.be(3, x.timeout(2, 0), "acceptor 0 takes over");
        DUE.be(3, sent(x, 3, 2), "accepted of ballot 0");
        DUE.be(0, x.accepted(2, 0, 0, 2), "is not counted for ballot 3");
        DUE.be(0, x.accepted(2, 0, 1, 2), "nor for the other shard");
        // a takeover forgets whom it counted
        x = asked();
        sent(x, 1, 0);
        sent(x, 2, 3);
        sent(x, 3, 2);
        DUE.be(1, x.accepted(2, 0, 0, 2), "one counted for ballot 0");
        x.timeout(2, 0);
        DUE.be(0, x.accepted(2, 0, 0, 2), "none for ballot 3");
        sent(x, 4, 2);
        sent(x, 5, 2);
        DUE.be(1, x.ballot(2, 0, 3), "one promise for ballot 3");
        x.timeout(2, 0);
        DUE.be(0, x.ballot(2, 0, 3), "none for ballot 6");
        x = asked();
        x.crash(0);
        x.restart(0);
        sent(x, 1, 0);
        sent(x, 2, 3);
        sent(x, 3, 2);
        DUE.be(1, x.accepted(2, 0, 0, 2), "one no counted for ballot 0");
        x.timeout(2, 0);
        DUE.be(0, x.accepted(2, 0, 0, 2), "none for ballot 3, of no neither");
    }

    /** An acceptor that accepted yes at 0, one that accepted no at 1, one that then hears both, in either order. */
    private static void keepsGreatest() {
        for (int order = 0; order < 2; order++) {
            CommitShards x = yesAtZeroNoAtOne();
            dropAll(x);
            DUE.be(2, x.timeout(3, 0), "acceptor 2 takes over");
            DUE.be(4, sent(x, 4, 1 + order), "an ask");
            DUE.be(4, sent(x, 4, 2 - order), "an ask");
            sent(x, 5, 3);
            sent(x, 5, 3);
            DUE.be(2, x.message(find(x, 2, 1), 3), "votes of ballot 2");
            DUE.be(2, x.message(find(x, 2, 1), 5), "no, of the greater ballot");
        }
    }

    /** As before, but ballot 2 keeps the yes of 0, and ballot 3 hears of no at 1 and yes at 2. */
    private static void keepsGreatestAgain() {
        for (int order = 0; order < 2; order++) {
            CommitShards x = yesAtZeroNoAtOne();
            dropAll(x);
            x.timeout(3, 0);
            sent(x, 4, 1);
            sent(x, 4, 3);
            sent(x, 5, 3);
            sent(x, 5, 3);
            DUE.be(1, x.message(find(x, 2, 3), 5), "yes, which one told");
            DUE.be(2, sent(x, 2, 3), "node 3 accepts");
            DUE.be(2, x.accepted(3, 0, 0, 0), "ballot 2");
            DUE.be(1, x.accepted(3, 0, 0, 1), "yes");
            dropAll(x);
            DUE.be(3, x.timeout(1, 0), "acceptor 0 takes over");
            DUE.be(4, sent(x, 4, 2 + order), "an ask");
            DUE.be(4, sent(x, 4, 3 - order), "an ask");
            sent(x, 5, 1);
            sent(x, 5, 1);
            DUE.be(1, x.message(find(x, 2, 2), 5), "yes, of the greater ballot");
            x.play(4, 400);
            DUE.be(3, x.outcome(0), "so it is committed");
            DUE.be(6, x.committedValue(0), "with its value");
        }
    }

    /** One shard (node 0), acceptors 1, 2, 3: node 1 accepted yes of ballot 0, node 2 no of ballot 1. */
    private static CommitShards yesAtZeroNoAtOne() {
        CommitShards x = new CommitShards(1, 3, 1, 1, 100, 100);
        x.begin(0);
        x.write(0, 0, 6);
        x.requestCommit(0);
        sent(x, 1, 0);
        sent(x, 2, 1);
        dropAll(x);
        DUE.be(1, x.timeout(2, 0), "acceptor 1 takes over");
        sent(x, 4, 2);
        sent(x, 4, 3);
        sent(x, 5, 2);
        sent(x, 5, 2);
        DUE.be(2, x.message(find(x, 2, 2), 5), "no, since none told one");
        sent(x, 2, 2);
        DUE.be(0, x.accepted(1, 0, 0, 0), "node 1 accepted at 0");
        DUE.be(1, x.accepted(1, 0, 0, 1), "yes");
        DUE.be(1, x.accepted(2, 0, 0, 0), "node 2 accepted at 1");
        DUE.be(2, x.accepted(2, 0, 0, 1), "no");
        DUE.be(1, x.ballot(2, 0, 0), "it promised 1");
        return x;
    }

    /** A vote of a ballot above what is promised is promised by accepting it, with no entry of its own. */
    private static void voteAbovePromise() {
        CommitShards x = yesAtZeroNoAtOne();
        DUE.be(0, x.ballot(1, 0, 0), "node 1 promised nothing");
        DUE.be(2, sent(x, 2, 1), "a vote of ballot 1");
        DUE.be(1, x.ballot(1, 0, 0), "it promised 1");
        DUE.be(1, x.accepted(1, 0, 0, 0), "it accepted that");
        DUE.be(2, x.accepted(1, 0, 0, 1), "no");
        DUE.be(2, x.node(1, 1), "two entries");
        entryIs(x, 1, 1, 4, 0, 1, 2);
        messageIs(x, x.pending() - 1, 3, 2, 0, 1, 0, 2, 1);
        DUE.be(0, x.node(1, 3), "none left that it promised nothing");
    }

    /** To accept the same vote again, of a greater ballot, is another entry; an end has no ballot. */
    private static void sameVoteOfGreaterBallot() {
        CommitShards x = new CommitShards(1, 1, 1, 1, 100, 100);
        x.begin(0);
        x.write(0, 0, 6);
        x.requestCommit(0);
        x.deliver(0);
        x.deliver(0);
        x.drop(0);
        DUE.be(1, x.timeout(1, 0), "the acceptor takes over");
        x.deliver(0);
        x.deliver(0);
        messageIs(x, 0, 2, 1, 0, 1, 0, 1, 1);
        DUE.be(2, x.deliver(0), "the same vote of ballot 1");
        entryIs(x, 1, 2, 4, 0, 1, 1);
        DUE.be(1, x.accepted(1, 0, 0, 0), "accepted at 1");
        DUE.be(3, x.deliver(0), "accepted");
        messageIs(x, 0, 6, 0, 0, 0, 0, 3, 1);
        messageIs(x, 1, 6, 2, 0, 0, 0, 3, 1);
    }

    /** A leader that takes over again keeps no ballot of what it was told before. */
    private static void keptBallotsForgotten() {
        CommitShards x = yesAtZeroNoAtOne();
        dropAll(x);
        x.timeout(3, 0);
        sent(x, 4, 2);
        sent(x, 5, 3);
        DUE.be(1, x.ballot(3, 0, 3), "node 3 was told no of ballot 1");
        dropAll(x);
        DUE.be(5, x.timeout(3, 0), "it takes over again");
        sent(x, 4, 1);
        sent(x, 4, 3);
        sent(x, 5, 3);
        sent(x, 5, 3);
        messageIs(x, x.pending() - 1, 2, 3, 0, 5, 0, 1, 3);
    }

    /** A promise tells what was accepted when it was posted, not what is when it comes. */
    private static void promiseTellsAsOfThen() {
        CommitShards x = new CommitShards(1, 3, 1, 1, 100, 100);
        x.begin(0);
        x.write(0, 0, 6);
        x.requestCommit(0);
        x.timeout(2, 0);
        sent(x, 4, 1);
        sent(x, 4, 2);
        x.drop(find(x, 4, 3));
        // two promises of ballot 1 wait that tell nothing; node 3 accepts yes at 0 and leads ballot 2 with it
        sent(x, 1, 0);
        sent(x, 2, 3);
        x.timeout(3, 0);
        sent(x, 4, 1);
        sent(x, 4, 3);
        sent(x, 5, 3);
        sent(x, 5, 3);
        x.drop(find(x, 2, 1));
        sent(x, 2, 1);
        DUE.be(2, x.accepted(1, 0, 0, 0), "node 1 accepted at 2");
        DUE.be(1, x.accepted(1, 0, 0, 1), "yes");
        sent(x, 5, 2);
        sent(x, 5, 2);
        messageIs(x, x.pending() - 1, 2, 3, 0, 1, 0, 2, 2);
    }

    /** A promise that tells yes, copied by twice(), tells yes. */
    private static void twiceOfPromise() {
        CommitShards x = new CommitShards(1, 3, 1, 1, 100, 100);
        x.begin(0);
        x.write(0, 0, 6);
        x.requestCommit(0);
        sent(x, 1, 0);
        sent(x, 2, 1);
        dropAll(x);
        x.timeout(2, 0);
        sent(x, 4, 1);
        int i = find(x, 5, 2);
        DUE.be(x.pending() + 1, x.twice(i), "twice of a promise");
        x.drop(i);
        sent(x, 4, 3);
        DUE.be(5, sent(x, 5, 2), "the copy");
        DUE.be(5, sent(x, 5, 2), "of another");
        DUE.be(1, x.message(find(x, 2, 2), 5), "yes is told by the copy");
    }

    private static void deliverEnd() {
        CommitShards x = usual();
        x.begin(0);
        x.begin(1);
        x.write(0, 0, 5);
        x.read(0, 2);
        x.write(1, 4, 9);
        x.requestCommit(0);
        x.play(2, 400);
        DUE.be(3, x.outcome(0), "committed");
        DUE.be(5, x.committedValue(0), "its new value");
        DUE.be(0, x.committedValue(4), "no other's");
        DUE.be(0, x.lock(0, 0) + x.lock(2, 0), "none of its locks stays");
        DUE.be(1, x.lock(4, 0), "another's stays");
        DUE.be(1, x.node(0, 2), "another's session stays");
        entryIs(x, 0, 1, 2, 0, 3, 0);
        // aborted by the client, then ended by an acceptor that takes over: the state stays, the shard decides
        x.abort(1);
        DUE.be(3, x.timeout(2, 1), "takes over an aborted one");
        x.play(1, 400);
        DUE.be(4, x.outcome(1), "it is aborted still");
        entryIs(x, 0, 2, 2, 1, 4, 0);
        DUE.be(0, x.committedValue(4), "and nothing done");
        DUE.be(1, x.count(4), "one aborted");
    }

    private static void endTwice() {
        CommitShards x = asked();
        for (int i = 0; i < ENOUGH && find(x, 6, 0) < 0; i++) {
            x.deliver(0);
        }
        x.twice(find(x, 6, 0));
        x.twice(find(x, 6, 5));
        sent(x, 6, 0);
        DUE.be(7, x.committedValue(0), "committed at one shard");
        DUE.be(0, x.committedValue(1), "not yet at the other");
        x.begin(1);
        x.write(1, 0, 50);
        DUE.be(6, sent(x, 6, 0), "an end again");
        DUE.be(2, x.node(0, 1), "is not written");
        DUE.be(1, x.lock(0, 2), "nor ends another's session");
        DUE.be(6, sent(x, 6, 5), "an end to the client");
        DUE.be(6, sent(x, 6, 5), "and again");
        DUE.be(3, x.outcome(0), "committed");
        DUE.be(1, x.count(3), "once");
    }

    private static void downNode() {
        CommitShards x = asked();
        x.crash(0);
        DUE.be(9, x.deliver(0), "its shard is down");
        DUE.be(1, x.pending(), "taken out, nothing posted");
        DUE.be(1, x.count(2), "delivered all the same");
        DUE.be(0, x.node(0, 1), "nothing written");
        x.deliver(0);
        x.crash(2);
        DUE.be(9, x.deliver(0), "its acceptor is down");
        DUE.be(2, x.pending(), "nothing posted");
        DUE.be(0, x.node(2, 1), "nothing written");
        x.crash(5);
        DUE.be(BAD, x.crash(5), "the client never falls");
    }

    private static void muteShard() {
        CommitShards x = new CommitShards(1, 1, 3, 3, 20, 1);
        x.begin(0);
        x.begin(1);
        x.write(0, 0, 5);
        x.read(1, 1);
        x.requestCommit(0);
        x.requestCommit(1);
        x.twice(0);
        DUE.be(1, x.deliver(0), "the one entry");
        DUE.be(10, x.deliver(0), "no room for a second vote");
        DUE.be(1, x.lock(1, 0), "nothing at all is done");
        DUE.be(1, x.deliver(0), "a vote voted before needs no entry");
        DUE.be(2, x.pending(), "two votes");
        DUE.be(3, x.count(2), "mute ones are delivered");
        x.deliver(0);
        x.deliver(0);
        x.deliver(0);
        DUE.be(10, sent(x, 6, 0), "no room for an end");
        x.play(1, 400);
        DUE.be(3, x.outcome(0), "the client hears of it");
        DUE.be(0, x.committedValue(0), "the shard was mute");
        DUE.be(2, x.node(0, 2), "both sessions stay");
        DUE.be(1, x.node(1, 4), "the acceptor knows an end");
    }

    private static void muteAcceptor() {
        CommitShards x = new CommitShards(1, 1, 3, 3, 20, 1);
        x.begin(0);
        x.begin(1);
        x.write(0, 0, 5);
        x.write(1, 1, 5);
        x.requestCommit(0);
        sent(x, 1, 0);
        x.twice(0);
        DUE.be(2, x.deliver(0), "the one entry");
        DUE.be(2, x.deliver(0), "accepted before needs none");
        DUE.be(0, x.timeout(1, 0), "no room to take over");
        x.requestCommit(1);
        DUE.be(10, sent(x, 1, 0), "the shard's log is full, too");
        x = new CommitShards(2, 1, 3, 4, 20, 1);
        x.begin(0);
        x.write(0, 0, 5);
        x.write(0, 1, 5);
        x.requestCommit(0);
        x.deliver(0);
        x.deliver(0);
        DUE.be(2, x.deliver(0), "a vote of shard 0");
        DUE.be(10, x.deliver(0), "no room for that of shard 1");
        DUE.be(1, x.pending(), "nothing posted");
        DUE.be(BAD, x.accepted(2, 0, 1, 0), "nothing accepted");
        x = new CommitShards(1, 3, 3, 3, 20, 2);
        x.begin(0);
        x.write(0, 0, 5);
        x.requestCommit(0);
        DUE.be(1, x.timeout(2, 0), "entry 0 of node 2");
        DUE.be(4, x.timeout(2, 0), "entry 1 of node 2");
        sent(x, 1, 0);
        DUE.be(2, sent(x, 2, 2), "a vote below what is promised needs no entry");
        DUE.be(2, x.timeout(3, 0), "entry 0 of node 3");
        DUE.be(5, x.timeout(3, 0), "entry 1 of node 3");
        // behind the ask of ballot 5 to node 2 lies that to node 3
        x.drop(x.pending() - 1);
        messageIs(x, x.pending() - 1, 4, 2, 0, 5, 0, 0, 3);
        DUE.be(10, x.deliver(x.pending() - 1), "an ask above what is promised finds no room");
        DUE.be(4, x.ballot(2, 0, 0), "and promises nothing");
        DUE.be(4, x.message(find(x, 4, 2), 0), "an ask of ballot 1");
    }

    // ---- 11 .. 13

    private static void drop() {
        CommitShards x = asked();
        DUE.be(1, x.drop(0), "drop of a prepare");
        DUE.be(1, x.pending(), "it is taken out");
        DUE.be(1, x.message(0, 1), "those behind move up");
        DUE.be(0, x.count(2), "not delivered");
        DUE.be(0, x.node(0, 1), "nothing done");
        x.deliver(0);
        DUE.be(2, x.drop(1), "drop of a vote");
        DUE.be(2, x.message(0, 1), "the first stays");
        DUE.be(4, x.message(1, 1), "the third moves up");
        DUE.be(BAD, x.drop(2), "drop of one behind the last");
        DUE.be(BAD, x.drop(-1), "drop(-1)");
        DUE.be(BAD, x.drop(MIN) & x.drop(MAX), "drop of far ones");
        DUE.be(2, x.drop(1), "drop of the last");
        DUE.be(2, x.drop(0), "drop of the only one");
        DUE.be(BAD, x.drop(0), "drop of none");
        DUE.be(5, x.count(0), "posted all the same");
    }

    private static void twice() {
        CommitShards x = asked();
        x.deliver(1);
        DUE.be(5, x.twice(2), "twice of a vote");
        messageIs(x, 4, 2, 3, 0, 0, 1, 1, 1);
        messageIs(x, 2, 2, 3, 0, 0, 1, 1, 1);
        DUE.be(6, x.count(0), "a posted one");
        DUE.be(BAD, x.twice(5), "twice of one behind the last");
        DUE.be(BAD, x.twice(-1), "twice(-1)");
        DUE.be(BAD, x.twice(MIN) & x.twice(MAX), "twice of far ones");
        x = new CommitShards(1, 1, 1, 1, 2, 9);
        DUE.be(BAD, x.twice(0), "twice of none");
        x.begin(0);
        x.write(0, 0, 1);
        x.requestCommit(0);
        DUE.be(2, x.twice(0), "the last place");
        DUE.be(0, x.twice(0), "lost");
        DUE.be(2, x.pending(), "none more");
        DUE.be(3, x.count(0), "posted, the lost one too");
        DUE.be(1, x.count(1), "lost");
        x.deliver(0);
        DUE.be(2, x.pending(), "the place of a delivered one is free");
        DUE.be(1, x.count(1), "its vote is not lost");
    }

    private static void timeout() {
        CommitShards x = asked();
        DUE.be(1, x.timeout(3, 0), "acceptor 1");
        DUE.be(2, x.timeout(4, 0), "acceptor 2");
        DUE.be(3, x.timeout(2, 0), "acceptor 0: above 0");
        DUE.be(4, x.timeout(3, 0), "acceptor 1 again: above what it leads");
        for (int i = 0; i < 3; i++) {
            messageIs(x, 2 + i, 4, 2 + i, 0, 1, 0, 0, 3);
            messageIs(x, 8 + i, 4, 2 + i, 0, 3, 0, 0, 2);
        }
        entryIs(x, 3, 0, 3, 0, 1, 0);
        entryIs(x, 3, 1, 3, 0, 4, 0);
        DUE.be(4, x.ballot(3, 0, 0), "it promised that");
        DUE.be(4, x.ballot(3, 0, 1), "it leads that");
        x.deliver(13);
        DUE.be(4, x.ballot(4, 0, 0), "node 4 promised 4");
        DUE.be(5, x.timeout(4, 0), "above what it promised");
        x.crash(4);
        x.restart(4);
        DUE.be(BAD, x.ballot(4, 0, 1), "it leads none");
        DUE.be(8, x.timeout(4, 0), "above what it promised before it fell");
        int before = x.pending();
        x.timeout(4, 0);
        DUE.be(before + 3, x.pending(), "an ask to each acceptor");
        x = new CommitShards(1, 5, 1, 1, 200, 200);
        x.begin(0);
        x.read(0, 0);
        x.requestCommit(0);
        int[] want = {5, 1, 2, 3, 4};
        for (int i = 0; i < 5; i++) {
            DUE.be(want[i], x.timeout(1 + i, 0), "of five: acceptor " + i);
            DUE.be(want[i] + 5, x.timeout(1 + i, 0), "of five again: acceptor " + i);
        }
        x = new CommitShards(1, 1, 1, 1, 200, 200);
        x.begin(0);
        x.read(0, 0);
        x.requestCommit(0);
        DUE.be(1, x.timeout(1, 0), "of one");
        DUE.be(2, x.timeout(1, 0), "of one again");
    }

    private static void timeoutRefused() {
        CommitShards x = usual();
        int[][] wrong = {{0, 0}, {1, 0}, {5, 0}, {-1, 0}, {2, -1}, {2, 4}, {MIN, 0}, {MAX, 0}, {2, MIN}, {2, MAX}};
        for (int[] w : wrong) {
            DUE.be(BAD, x.timeout(w[0], w[1]), "timeout(" + w[0] + ", " + w[1] + ")");
        }
        DUE.be(0, x.timeout(2, 0), "of an idle one");
        x.begin(0);
        DUE.be(0, x.timeout(2, 0), "of an active one");
        x.write(0, 0, 1);
        DUE.be(0, x.timeout(2, 0), "of an active one that touches");
        x.begin(1);
        x.requestCommit(1);
        DUE.be(0, x.timeout(2, 1), "of one that touches nothing");
        x.begin(2);
        x.abort(2);
        DUE.be(0, x.timeout(2, 2), "of an aborted one that touches nothing");
        x.requestCommit(0);
        x.crash(2);
        DUE.be(0, x.timeout(2, 0), "by one that is down");
        x.restart(2);
        DUE.be(1, x.pending(), "nothing was posted");
        DUE.be(0, x.node(2, 1), "nor written");
        x.play(1, 400);
        DUE.be(3, x.ballot(2, 0, 2), "it knows an end");
        DUE.be(0, x.timeout(2, 0), "by one that knows an end");
        DUE.be(1, x.timeout(3, 0), "by one that does not, of a committed one");
        x.crash(2);
        x.restart(2);
        DUE.be(3, x.timeout(2, 0), "by one that forgot the end");
    }

    // ---- 14, 15

    private static void crashShard() {
        CommitShards x = usual();
        x.begin(0);
        x.begin(1);
        x.begin(2);
        x.write(0, 0, 5);
        x.write(0, 1, 6);
        x.write(1, 2, 7);
        x.read(2, 4);
        x.requestCommit(0);
        x.deliver(0);
        DUE.be(3, x.node(0, 2), "three sessions");
        DUE.be(1, x.crash(0), "it falls");
        DUE.be(0, x.node(0, 0), "it is down");
        DUE.be(1, x.node(0, 2), "who voted yes stays");
        DUE.be(1, x.lock(0, 2), "with its lock");
        DUE.be(0, x.lock(2, 0) + x.lock(4, 0), "others' locks go");
        DUE.be(1, x.lock(1, 0), "another shard's stay");
        DUE.be(0, x.crash(0), "it is down");
        DUE.be(1, x.node(0, 1), "its log stays");
        DUE.be(1, x.abort(1), "the client may abort");
        x.restart(0);
        x.play(6, 400);
        DUE.be(3, x.outcome(0), "committed");
        DUE.be(5, x.committedValue(0), "its new value was kept");
        DUE.be(0, x.committedValue(2), "another's was not");
        DUE.be(1, x.requestCommit(2), "the reader asks");
        DUE.be(1, x.deliver(0), "prepare");
        DUE.be(2, x.message(0, 5), "votes no, without a session");
        x.crash(0);
        DUE.be(0, x.node(0, 2), "none stays");
        DUE.be(5, x.committedValue(0), "values stay");
        for (int bad : new int[] {-1, 5, 6, MIN, MAX}) {
            DUE.be(BAD, x.crash(bad), "crash(" + bad + ")");
            DUE.be(BAD, x.restart(bad), "restart(" + bad + ")");
        }
    }

    /** A session that voted no stays ended; a prepare that comes again votes what was voted. */
    private static void votesStay() {
        CommitShards x = asked();
        x.twice(0);
        x.crash(0);
        x.restart(0);
        DUE.be(1, x.deliver(0), "votes no");
        x.crash(0);
        x.restart(0);
        DUE.be(1, x.deliver(1), "prepare again");
        DUE.be(2, x.message(x.pending() - 1, 5), "no again");
        DUE.be(1, x.node(0, 1), "no other entry");
        x = asked();
        x.twice(0);
        x.deliver(0);
        x.crash(0);
        x.restart(0);
        DUE.be(1, x.deliver(1), "prepare again");
        DUE.be(1, x.message(x.pending() - 1, 5), "yes again");
        x.play(1, 400);
        x.crash(0);
        x.restart(0);
        x.timeout(3, 0);
        x.play(1, 400);
        DUE.be(2, x.node(0, 1), "decided once, falls or not");
        DUE.be(7, x.committedValue(0), "done once");
    }

    private static void crashAcceptor() {
        CommitShards x = asked();
        x.deliver(0);
        sent(x, 2, 2);
        sent(x, 2, 3);
        x.twice(find(x, 3, 2));
        sent(x, 3, 2);
        DUE.be(1, x.accepted(2, 0, 0, 2), "one counted");
        DUE.be(1, x.crash(2), "it falls");
        DUE.be(0, x.accepted(2, 0, 0, 2), "whom it counted is forgotten");
        DUE.be(0, x.accepted(2, 0, 0, 0), "what it accepted stays");
        DUE.be(1, x.accepted(2, 0, 0, 1), "with the vote");
        x.restart(2);
        DUE.be(0, x.ballot(2, 0, 1), "it leads 0");
        sent(x, 3, 2);
        sent(x, 3, 2);
        DUE.be(2, x.accepted(2, 0, 0, 2), "it counts anew");
        x.play(1, 400);
        DUE.be(3, x.ballot(2, 0, 2), "it knows");
        DUE.be(1, x.node(2, 4), "one end");
        x.crash(2);
        DUE.be(0, x.ballot(2, 0, 2), "what it knows is forgotten");
        DUE.be(0, x.node(2, 4), "no end");
        x.restart(2);
        x.timeout(2, 0);
        DUE.be(3, x.ballot(2, 0, 1), "it leads 3");
        sent(x, 4, 3);
        sent(x, 5, 2);
        DUE.be(1, x.ballot(2, 0, 3), "one promise");
        x.crash(2);
        DUE.be(0, x.ballot(2, 0, 3), "no promise");
        DUE.be(0, x.ballot(2, 0, 1), "it leads as at first");
        DUE.be(3, x.ballot(2, 0, 0), "what it promised stays");
        x.timeout(3, 0);
        x.crash(3);
        DUE.be(BAD, x.ballot(3, 0, 1), "another leads none");
        DUE.be(0, x.crash(3), "it is down");
    }

    /** Which votes a leader kept is forgotten when it falls. */
    private static void keptVotesForgotten() {
        CommitShards x = new CommitShards(1, 3, 1, 1, 100, 100);
        x.begin(0);
        x.write(0, 0, 6);
        x.requestCommit(0);
        sent(x, 1, 0);
        sent(x, 2, 1);
        dropAll(x);
        x.timeout(2, 0);
        sent(x, 4, 1);
        sent(x, 5, 2);
        DUE.be(1, x.ballot(2, 0, 3), "a promise that tells yes");
        x.crash(2);
        x.restart(2);
        dropAll(x);
        DUE.be(4, x.timeout(2, 0), "it takes over again");
        sent(x, 4, 2);
        sent(x, 4, 3);
        sent(x, 5, 2);
        sent(x, 5, 2);
        DUE.be(2, x.message(find(x, 2, 1), 5), "no: none of these told one");
    }

    private static void restart() {
        CommitShards x = usual();
        for (int i = 0; i < 5; i++) {
            DUE.be(0, x.restart(i), "restart of one that is up");
            DUE.be(1, x.crash(i), "it falls");
            DUE.be(0, x.node(i, 0), "it is down");
            DUE.be(1, x.restart(i), "it rises");
            DUE.be(1, x.node(i, 0), "it is up");
        }
    }

    // ---- 16, 17

    private static void pending() {
        CommitShards x = usual();
        DUE.be(0, x.pending(), "none");
        x = asked();
        DUE.be(2, x.pending(), "two");
        x.deliver(0);
        DUE.be(4, x.pending(), "one out, three in");
        x.drop(0);
        DUE.be(3, x.pending(), "one out");
        x.twice(0);
        DUE.be(4, x.pending(), "one in");
    }

    private static void play() {
        CommitShards x = asked();
        DUE.be(BAD, x.play(1, -1), "play(1, -1)");
        DUE.be(BAD, x.play(1, 401), "play(1, 401)");
        DUE.be(BAD, x.play(1, MIN) & x.play(1, MAX), "play of far numbers");
        DUE.be(2, x.pending(), "nothing was delivered");
        DUE.be(0, x.play(1, 0), "play(1, 0)");
        DUE.be(1, x.play(1, 1), "play(1, 1)");
        DUE.be(1, x.count(2), "one delivered");
        DUE.be(16, x.play(1, 400), "till none is left");
        DUE.be(0, x.play(1, 400), "none is left");
        DUE.be(17, x.count(2), "all delivered");
        places(0L);
        places(1L);
        places(-1L);
        places(Long.MIN_VALUE);
        places(Long.MAX_VALUE);
        places(0x123456789abcdefL);
    }

    /** The same run by deliver(), the places found by unsigned division of x. */
    private static void places(long seed) {
        CommitShards played = new CommitShards(4, 5, 1, 8, 100, 100);
        CommitShards moved = new CommitShards(4, 5, 1, 8, 100, 100);
        for (CommitShards x : new CommitShards[] {played, moved}) {
            x.begin(0);
            for (int key = 0; key < 8; key++) {
                x.write(0, key, key + 1);
            }
            x.requestCommit(0);
            x.timeout(5, 0);
        }
        DUE.be(30, played.play(seed, 30), "play of 30");
        long x = seed;
        for (int i = 0; i < 30; i++) {
            x = x * 6364136223846793005L + 1442695040888963407L;
            long bits = Long.divideUnsigned(x, 1L << 32) % (1L << 31);
            moved.deliver((int) (bits % moved.pending()));
        }
        DUE.be(moved.pending(), played.pending(), "as many wait");
        for (int i = 0; i < moved.pending(); i++) {
            for (int what = 0; what < 7; what++) {
                DUE.be(moved.message(i, what), played.message(i, what), "seed " + seed + " message(" + i + ", " + what + ")");
            }
        }
    }

    // ---- 18 .. 24

    private static void message() {
        CommitShards x = asked();
        messageIs(x, 1, 1, 1, 0, 0, 0, 0, 5);
        int[][] wrong = {{2, 0}, {-1, 0}, {0, -1}, {0, 7}, {MIN, 0}, {MAX, 0}, {0, MIN}, {0, MAX}};
        for (int[] w : wrong) {
            DUE.be(BAD, x.message(w[0], w[1]), "message(" + w[0] + ", " + w[1] + ")");
        }
        DUE.be(BAD, usual().message(0, 0), "of none");
        // a kind that has less takes nothing of one that lay in its place
        x.play(8, 400);
        x.begin(3);
        x.write(3, 1, 1);
        x.requestCommit(3);
        messageIs(x, 0, 1, 1, 3, 0, 0, 0, 5);
        x.timeout(4, 3);
        messageIs(x, 1, 4, 2, 3, 2, 0, 0, 4);
    }

    private static void lock() {
        CommitShards x = usual();
        DUE.be(0, x.lock(0, 0), "none");
        DUE.be(BAD, x.lock(0, 1), "least of none");
        DUE.be(0, x.lock(0, 2), "not exclusive");
        x.begin(3);
        x.begin(1);
        x.read(3, 0);
        DUE.be(3, x.lock(0, 1), "the only one");
        x.read(1, 0);
        DUE.be(2, x.lock(0, 0), "two");
        DUE.be(1, x.lock(0, 1), "the lesser");
        DUE.be(0, x.lock(0, 2), "shared");
        x.write(3, 5, 1);
        DUE.be(1, x.lock(5, 0), "one");
        DUE.be(3, x.lock(5, 1), "the writer");
        DUE.be(1, x.lock(5, 2), "exclusive");
        int[][] wrong = {{-1, 0}, {6, 0}, {0, -1}, {0, 3}, {MIN, 0}, {MAX, 0}, {0, MIN}, {0, MAX}};
        for (int[] w : wrong) {
            DUE.be(BAD, x.lock(w[0], w[1]), "lock(" + w[0] + ", " + w[1] + ")");
        }
        x.crash(1);
        DUE.be(0, x.lock(5, 0), "a fall frees it");
    }

    private static void node() {
        CommitShards x = asked();
        DUE.be(1, x.node(0, 2), "a session");
        x.begin(1);
        x.read(1, 2);
        DUE.be(2, x.node(0, 2), "two sessions");
        DUE.be(1, x.node(1, 2), "one session");
        DUE.be(4, x.node(3, 3), "it promised nothing to four");
        x.timeout(3, 0);
        DUE.be(3, x.node(3, 3), "to three");
        DUE.be(1, x.node(3, 1), "an entry");
        DUE.be(0, x.node(3, 4), "it knows no end");
        x.play(3, 400);
        DUE.hold(x.node(2, 4) == 1 || x.node(3, 4) == 1, "an acceptor knows the end");
        DUE.be(BAD, x.node(0, 3), "3 of a shard");
        DUE.be(BAD, x.node(1, 4), "4 of a shard");
        DUE.be(BAD, x.node(2, 2), "2 of an acceptor");
        int[][] wrong = {{-1, 0}, {5, 0}, {6, 0}, {0, -1}, {0, 5}, {2, -1}, {2, 5}, {MIN, 0}, {MAX, 0}, {0, MIN}, {2, MAX}};
        for (int[] w : wrong) {
            DUE.be(BAD, x.node(w[0], w[1]), "node(" + w[0] + ", " + w[1] + ")");
        }
    }

    private static void entry() {
        CommitShards x = usual();
        x.begin(3);
        x.write(3, 1, 1);
        x.requestCommit(3);
        x.deliver(0);
        x.deliver(0);
        entryIs(x, 1, 0, 1, 3, 1, 0);
        entryIs(x, 2, 0, 4, 3, 0, 11);
        x.timeout(4, 3);
        entryIs(x, 4, 0, 3, 3, 2, 0);
        int[][] wrong = {{1, 1, 0}, {1, -1, 0}, {1, 0, -1}, {1, 0, 4}, {0, 0, 0}, {-1, 0, 0}, {5, 0, 0}, {MIN, 0, 0},
            {MAX, 0, 0}, {1, MIN, 0}, {1, MAX, 0}, {1, 0, MIN}, {1, 0, MAX}};
        for (int[] w : wrong) {
            DUE.be(BAD, x.entry(w[0], w[1], w[2]), "entry(" + w[0] + ", " + w[1] + ", " + w[2] + ")");
        }
        x.crash(1);
        entryIs(x, 1, 0, 1, 3, 1, 0);
    }

    private static void ballot() {
        CommitShards x = asked();
        for (int i = 0; i < 3; i++) {
            DUE.be(0, x.ballot(2 + i, 0, 0), "promised nothing");
            DUE.be(i == 0 ? 0 : BAD, x.ballot(2 + i, 0, 1), "leads");
            DUE.be(0, x.ballot(2 + i, 0, 2), "knows nothing");
            DUE.be(0, x.ballot(2 + i, 0, 3), "counted none");
        }
        x.timeout(4, 0);
        DUE.be(2, x.ballot(4, 0, 0), "promised 2");
        DUE.be(2, x.ballot(4, 0, 1), "leads 2");
        DUE.be(0, x.ballot(4, 1, 0), "about another nothing");
        DUE.be(BAD, x.ballot(4, 1, 1), "leads none about another");
        int[][] wrong = {{0, 0, 0}, {1, 0, 0}, {5, 0, 0}, {-1, 0, 0}, {2, -1, 0}, {2, 4, 0}, {2, 0, -1}, {2, 0, 4},
            {MIN, 0, 0}, {MAX, 0, 0}, {2, MIN, 0}, {2, MAX, 0}, {2, 0, MIN}, {2, 0, MAX}};
        for (int[] w : wrong) {
            DUE.be(BAD, x.ballot(w[0], w[1], w[2]), "ballot(" + w[0] + ", " + w[1] + ", " + w[2] + ")");
        }
    }

    private static void accepted() {
        CommitShards x = asked();
        DUE.be(BAD, x.accepted(2, 0, 1, 0), "accepted none");
        DUE.be(0, x.accepted(2, 0, 1, 1), "no vote");
        DUE.be(0, x.accepted(2, 0, 1, 2), "counted none");
        sent(x, 1, 1);
        sent(x, 2, 2);
        DUE.be(0, x.accepted(2, 0, 1, 0), "accepted at 0");
        DUE.be(1, x.accepted(2, 0, 1, 1), "yes");
        DUE.be(BAD, x.accepted(2, 0, 0, 0), "of the other shard none");
        DUE.be(BAD, x.accepted(2, 1, 1, 0), "of another none");
        sent(x, 3, 2);
        DUE.be(1, x.accepted(2, 0, 1, 2), "counted one");
        int[][] wrong = {{0, 0, 0, 0}, {1, 0, 0, 0}, {5, 0, 0, 0}, {-1, 0, 0, 0}, {2, -1, 0, 0}, {2, 4, 0, 0}, {2, 0, -1, 0},
            {2, 0, 2, 0}, {2, 0, 0, -1}, {2, 0, 0, 3}, {MIN, 0, 0, 0}, {MAX, 0, 0, 0}, {2, MIN, 0, 0}, {2, MAX, 0, 0},
            {2, 0, MIN, 0}, {2, 0, MAX, 0}, {2, 0, 0, MIN}, {2, 0, 0, MAX}};
        for (int[] w : wrong) {
            DUE.be(BAD, x.accepted(w[0], w[1], w[2], w[3]),
                "accepted(" + w[0] + ", " + w[1] + ", " + w[2] + ", " + w[3] + ")");
        }
    }

    private static void count() {
        CommitShards x = new CommitShards(2, 3, 4, 6, 3, 50);
        x.begin(0);
        x.write(0, 0, 1);
        x.write(0, 1, 1);
        x.requestCommit(0);
        x.deliver(0);
        DUE.be(5, x.count(0), "posted, the lost one too");
        DUE.be(1, x.count(1), "lost");
        DUE.be(1, x.count(2), "delivered");
        x.drop(0);
        DUE.be(1, x.count(2), "a dropped one is not delivered");
        x.begin(1);
        x.requestCommit(1);
        x.begin(2);
        x.abort(2);
        x.begin(3);
        x.abort(3);
        DUE.be(1, x.count(3), "committed");
        DUE.be(2, x.count(4), "aborted");
        DUE.be(2, x.count(5), "S");
        DUE.be(3, x.count(6), "A");
        DUE.be(4, x.count(7), "T");
        DUE.be(6, x.count(8), "K");
        for (int bad : new int[] {-1, 9, MIN, MAX}) {
            DUE.be(BAD, x.count(bad), "count(" + bad + ")");
        }
    }

    // ---- helpers

    /** The place of the first message of that kind to that node; BAD: there is none. */
    private static int find(CommitShards x, int kind, int to) {
        for (int i = 0; i < x.pending(); i++) {
            if (x.message(i, 0) == kind && x.message(i, 1) == to) {
                return i;
            }
        }
        return BAD;
    }

    /** Delivers the first message of that kind to that node. */
    private static int sent(CommitShards x, int kind, int to) {
        return x.deliver(find(x, kind, to));
    }

    private static void dropAll(CommitShards x) {
        for (int i = 0; i < ENOUGH && x.pending() > 0; i++) {
            x.drop(0);
        }
    }
}
