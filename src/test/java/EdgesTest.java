import java.math.BigInteger;

/** Each sentence of the document that names a bound, on both sides of it; by promises, then by the words of Terms. */
public final class EdgesTest {
    private static final Due DUE = new Due("EdgesTest");
    private static final int BAD = CommitShards.BAD;
    private static final int MIN = Integer.MIN_VALUE;
    private static final int MAX = Integer.MAX_VALUE;
    private static final int PREPARE = 1;
    private static final int VOTE = 2;
    private static final int ACCEPTED = 3;
    private static final int ASK = 4;
    private static final int PROMISE = 5;
    private static final int END = 6;

    public static void main(String[] args) {
        shards();
        acceptors();
        txns();
        keys();
        poolSizes();
        logSizes();
        greatestObject();
        leastObject();
        poolEmpty();
        poolFullOfPrepares();
        poolFullForVotes();
        poolFullForAccepted();
        poolFullForAsks();
        poolFullForPromise();
        poolFullForVotesOfLeader();
        poolFullForEnds();
        poolFullForTwice();
        poolOfTwoHundred();
        lastTxnExclusive();
        lastTxnShared();
        allTxnsShared();
        lastTxnEnds();
        upgrade();
        longs();
        valuesThatLookLikeAnswers();
        playNumbers();
        playMoreThanFourHundred();
        playCountsDownAndMute();
        playSeeds();
        keysModuloShards();
        ballotsModuloAcceptors();
        leastBallotAboveZero();
        leastBallotAboveLed();
        leastBallotAbovePromised();
        majorityOfPromises();
        majorityOfYes();
        majorityOfNo();
        everyTouchedShardWithYes();
        entryOfLastShard();
        sessionFromFirstLock();
        ofSeveralTheFirst();
        fallKeepsOnlyYes();
        fallLeadsAsAtFirst();
        voteIfNoneTellsOne();
        voteOfGreatestBallot();
        promisedNothingAboveZero();
        noneIsBad();
        notHadIsZero();
        abortWithShardDown();
        lastCalls();
        DUE.end();
    }

    // ---- promise 1: "others as the nearest (of two the lesser)"

    private static void shards() {
        int[][] wishes = {{MIN, 1}, {-1, 1}, {0, 1}, {1, 1}, {2, 2}, {3, 3}, {4, 4}, {5, 4}, {6, 4}, {MAX, 4}};
        for (int[] w : wishes) {
            Store x = new Store(w[0], 3, 2, 8, 9, 9);
            String how = "S of " + w[0];
            DUE.be(w[1], x.count(5), how);
            DUE.be(0, x.node(w[1] - 1, 2), how + ": the last shard");
            DUE.be(BAD, x.node(w[1], 2), how + ": behind it is an acceptor");
            DUE.be(0, x.ballot(w[1], 0, 1), how + ": acceptor 0");
            DUE.be(BAD, x.ballot(w[1] - 1, 0, 1), how + ": no acceptor before it");
        }
    }

    private static void acceptors() {
        int[][] wishes = {{MIN, 1}, {-1, 1}, {0, 1}, {1, 1}, {2, 1}, {3, 3}, {4, 3}, {5, 5}, {6, 5}, {7, 5}, {MAX, 5}};
        for (int[] w : wishes) {
            Store x = new Store(2, w[0], 2, 2, 9, 9);
            String how = "A of " + w[0];
            DUE.be(w[1], x.count(6), how);
            DUE.be(1, x.node(1 + w[1], 0), how + ": the last acceptor");
            DUE.be(BAD, x.node(2 + w[1], 0), how + ": behind it there is none");
            x.begin(0);
            x.write(0, 0, 1);
            x.requestCommit(0);
            DUE.be(2 + w[1], x.message(0, 6), how + ": the client's number");
            x.deliver(0);
            DUE.be(w[1], x.pending(), how + ": a VOTE to each");
        }
    }

    private static void txns() {
        int[][] wishes = {{MIN, 1}, {-1, 1}, {0, 1}, {1, 1}, {2, 2}, {15, 15}, {16, 16}, {17, 16}, {MAX, 16}};
        for (int[] w : wishes) {
            Store x = new Store(2, 3, w[0], 2, 9, 9);
            String how = "T of " + w[0];
            DUE.be(w[1], x.count(7), how);
            DUE.be(w[1], x.node(4, 3), how + ": all promised nothing");
            DUE.be(1, x.begin(w[1] - 1), how + ": the last");
            DUE.be(BAD, x.begin(w[1]), how + ": behind it there is none");
        }
    }

    private static void keys() {
        int[][] wishes = {{MIN, 1}, {-1, 1}, {0, 1}, {1, 1}, {2, 2}, {31, 31}, {32, 32}, {33, 32}, {MAX, 32}};
        for (int[] w : wishes) {
            Store x = new Store(2, 3, 2, w[0], 9, 9);
            String how = "K of " + w[0];
            DUE.be(w[1], x.count(8), how);
            x.begin(0);
            DUE.be(1, x.write(0, w[1] - 1, 1), how + ": the last");
            DUE.be(BAD, x.write(0, w[1], 1), how + ": behind it there is none");
            DUE.be(0, x.lock(w[1] - 1, 1), how + ": the last is LOCKED");
            DUE.be(BAD, x.lock(w[1], 0), how + ": behind it there is none");
        }
    }

    private static void poolSizes() {
        int[][] wishes = {{MIN, 1}, {-1, 1}, {0, 1}, {1, 1}, {2, 2}, {199, 199}, {200, 200}, {201, 200}, {MAX, 200}};
        for (int[] w : wishes) {
            Store x = oneAsked(w[0], 9);
            String how = "M of " + w[0];
            for (int i = 2; i <= w[1]; i++) {
                DUE.be(i, x.twice(0), how + ": twice");
            }
            DUE.be(0, x.count(1), how + ": none is LOST till then");
            DUE.be(0, x.twice(0), how + ": the next is LOST");
            DUE.be(1, x.count(1), how + ": and counted");
            DUE.be(w[1], x.pending(), how);
            DUE.be(PREPARE, x.message(w[1] - 1, 0), how + ": the last");
            DUE.be(BAD, x.message(w[1], 0), how + ": behind it there is none");
        }
    }

    private static void logSizes() {
        int[][] wishes = {{MIN, 1}, {-1, 1}, {0, 1}, {1, 1}, {2, 2}, {199, 199}, {200, 200}, {201, 200}, {MAX, 200}};
        for (int[] w : wishes) {
            Store x = oneAsked(1, w[0]);
            String how = "L of " + w[0];
            for (int i = 1; i <= w[1]; i++) {
                DUE.be(i, x.timeout(1, 0), how + ": timeout");
            }
            DUE.be(0, x.timeout(1, 0), how + ": the LOG has L ENTRIES");
            DUE.be(w[1], x.node(1, 1), how);
            DUE.be(w[1], x.entry(1, w[1] - 1, 2), how + ": the last ENTRY");
            DUE.be(BAD, x.entry(1, w[1], 0), how + ": behind it there is none");
        }
    }

    /** One SHARD (node 0), one ACCEPTOR (node 1); TXN 0 has asked. */
    private static Store oneAsked(int pool, int log) {
        Store x = new Store(1, 1, 2, 2, pool, log);
        x.begin(0);
        x.write(0, 0, 7);
        x.requestCommit(0);
        return x;
    }

    /** All numbers at their greatest: SHARDS 0 .. 3, ACCEPTORS 4 .. 8, THE CLIENT 9, TXN 15, KEY 31. */
    private static void greatestObject() {
        Store x = new Store(4, 5, 16, 32, 200, 200);
        x.begin(15);
        for (int key = 28; key <= 31; key++) {
            DUE.be(1, x.write(15, key, key), "write of the last TXN");
        }
        DUE.be(4, x.requestCommit(15), "it touches all SHARDS");
        for (int shard = 0; shard <= 3; shard++) {
            DUE.be(shard, x.message(shard, 1), "PREPARES, rising");
            DUE.be(9, x.message(shard, 6), "by the client");
        }
        DUE.be(4 + 20 + 20 + 5, x.play(1, 400), "all that is posted comes");
        DUE.be(3, x.outcome(15), "COMMITTED");
        DUE.be(31, x.committedValue(31), "the last KEY");
        DUE.be(15, x.entry(3, 0, 1), "an ENTRY of the last TXN");
        DUE.be(0, x.accepted(8, 15, 3, 0), "the last of each is ACCEPTED");
        DUE.be(4, x.timeout(8, 15), "the last ACCEPTOR takes over");
        DUE.be(BAD, x.timeout(9, 15), "the client is none");
    }

    private static void leastObject() {
        Store x = new Store(1, 1, 1, 1, 1, 2);
        DUE.be(1, x.begin(0), "begin");
        DUE.be(1, x.write(0, 0, 9), "write");
        DUE.be(1, x.requestCommit(0), "requestCommit");
        DUE.be(PREPARE, x.deliver(0), "PREPARE");
        DUE.be(VOTE, x.deliver(0), "VOTE");
        DUE.be(ACCEPTED, x.deliver(0), "ACCEPTED: one is a majority of one");
        DUE.be(1, x.count(1), "END to the client is LOST");
        DUE.be(END, x.deliver(0), "END");
        DUE.be(9, x.committedValue(0), "the SHARD has done it");
        DUE.be(2, x.outcome(0), "the client has not heard");
        DUE.be(2, x.node(0, 1), "two ENTRIES");
        x.fallAndRise(1);
        DUE.be(1, x.timeout(1, 0), "its LOG has room for one");
        DUE.be(2, x.node(1, 1), "and none more");
    }

    // ---- THE POOL: "at most M", "one that finds M there is LOST (counted)"

    private static void poolEmpty() {
        for (Store x : new Store[] {Scenes.fresh(), Scenes.committed()}) {
            DUE.be(0, x.pending(), "pending() of none");
            DUE.be(BAD, x.deliver(0), "deliver(0) of none");
            DUE.be(BAD, x.drop(0), "drop(0) of none");
            DUE.be(BAD, x.twice(0), "twice(0) of none");
            DUE.be(0, x.play(3, 400), "play of none");
            for (int what = 0; what <= 6; what++) {
                DUE.be(BAD, x.message(0, what), "message(0, " + what + ") of none");
            }
        }
    }

    private static void counted(Store x, int posted, int lost, int pending, String how) {
        DUE.be(posted, x.count(0), how + ": POSTED");
        DUE.be(lost, x.count(1), how + ": LOST");
        DUE.be(pending, x.pending(), how + ": pending");
    }

    private static void poolFullOfPrepares() {
        Store x = Scenes.asked(2, 9);
        counted(x, 2, 0, 2, "two PREPARES, two places");
        x = Scenes.asked(1, 9);
        counted(x, 2, 1, 1, "two PREPARES, one place");
        DUE.be(0, x.message(0, 1), "the first is there");
        x = Scenes.begun(1, 9);
        DUE.be(2, x.requestCommit(0), "two are POSTED, if LOST or not");
        DUE.be(1, x.requestCommit(1), "one is POSTED, though LOST");
        DUE.be(2, x.outcome(1), "it is ASKED all the same");
        counted(x, 3, 2, 1, "three PREPARES, one place");
    }

    private static void poolFullForVotes() {
        Store x = Scenes.asked(4, 9);
        x.deliver(0);
        counted(x, 5, 0, 4, "three VOTES, three places");
        x = Scenes.asked(3, 9);
        x.deliver(0);
        counted(x, 5, 1, 3, "three VOTES, two places");
        DUE.be(2, x.message(1, 1), "that to 2");
        DUE.be(3, x.message(2, 1), "and that to 3 is there");
        DUE.be(1, x.node(0, 1), "it VOTED all the same");
    }

    /** Taken out itself, a MESSAGE leaves a place for one that is POSTED. */
    private static void poolFullForAccepted() {
        Store x = Scenes.asked(3, 9);
        x.deliver(0);
        x.send(VOTE, 2);
        counted(x, 6, 1, 3, "one ACCEPTED, one place");
        DUE.be(ACCEPTED, x.message(2, 0), "it is the last");
    }

    private static void poolFullForAsks() {
        Store x = Scenes.asked(5, 9);
        DUE.be(1, x.timeout(3, 0), "takes over");
        counted(x, 5, 0, 5, "three ASKS, three places");
        x = Scenes.asked(4, 9);
        DUE.be(1, x.timeout(3, 0), "takes over");
        counted(x, 5, 1, 4, "three ASKS, two places");
        DUE.be(2, x.message(2, 1), "that to 2 is there");
        DUE.be(3, x.message(3, 1), "that to 3 is there");
        x = Scenes.asked(2, 9);
        DUE.be(1, x.timeout(3, 0), "takes over");
        counted(x, 5, 3, 2, "three ASKS, no place");
        DUE.be(1, x.ballot(3, 0, 1), "it LEADS that all the same");
        DUE.be(1, x.ballot(3, 0, 0), "it PROMISED that");
        DUE.be(1, x.node(3, 1), "and wrote it");
    }

    private static void poolFullForPromise() {
        Store x = Scenes.asked(4, 9);
        x.timeout(3, 0);
        x.send(ASK, 2);
        counted(x, 6, 1, 4, "one PROMISE, one place");
        DUE.be(PROMISE, x.message(3, 0), "it is the last");
    }

    private static void poolFullForVotesOfLeader() {
        Store x = Scenes.asked(7, 9);
        x.dropAll();
        x.timeout(3, 0);
        x.deliverFirst(3);
        x.deliver(0);
        int posted = x.count(0);
        x.deliver(0);
        counted(x, posted + 6, 0, 7, "six VOTES, six places");
        x = Scenes.asked(6, 9);
        x.dropAll();
        x.timeout(3, 0);
        x.deliverFirst(4);
        x.deliver(0);
        counted(x, posted + 6, 1, 6, "six VOTES, five places");
        DUE.be(3, x.message(5, 1), "that of SHARD 1 to 3 is the last");
        DUE.be(1, x.message(5, 4), "that of SHARD 1 to 3 is the last");
        DUE.be(2, x.ballot(3, 0, 3), "the majority stays counted");
    }

    /** Three ENDS, so many free places: the END to the client is the first that is LOST. */
    private static void poolFullForEnds() {
        for (int free = 1; free <= 3; free++) {
            Store x = new Store(2, 1, 1, 2, 3, 9);
            x.begin(0);
            x.write(0, 0, 7);
            x.write(0, 1, 8);
            x.requestCommit(0);
            x.deliverFirst(5);
            DUE.be(ACCEPTED, x.message(0, 0), "the last ACCEPTED");
            int others = 3 - free;
            for (int i = 0; i < others; i++) {
                x.twice(0);
            }
            x.deliver(0);
            DUE.be(3, x.ballot(2, 0, 2), "it KNOWS, whatever is LOST");
            counted(x, 6 + others + 3, 3 - free, 3, "three ENDS, places " + free);
            for (int i = 0; i < free; i++) {
                DUE.be(END, x.message(others + i, 0), "END");
                DUE.be(i == 2 ? 3 : i, x.message(others + i, 1), "to the SHARDS, then to the client");
            }
            x.play(1, 400);
            DUE.be(7, x.committedValue(0), "SHARD 0 has done it");
            DUE.be(free == 1 ? 0 : 8, x.committedValue(1), "SHARD 1 where its END is not LOST");
            DUE.be(free == 3 ? 3 : 2, x.outcome(0), "the client hears where its END is not LOST");
        }
    }

    private static void poolFullForTwice() {
        Store x = Scenes.asked(3, 9);
        DUE.be(3, x.twice(1), "the last place");
        DUE.be(1, x.message(2, 1), "a MESSAGE like it");
        DUE.be(0, x.twice(1), "none more");
        counted(x, 4, 1, 3, "twice of a full pool");
        x.drop(0);
        DUE.be(3, x.twice(0), "the place of a dropped one is free");
        x.crash(1);
        DUE.be(9, x.deliver(0), "taken out");
        DUE.be(3, x.twice(0), "the place of a delivered one is free");
    }

    private static void poolOfTwoHundred() {
        Store x = oneAsked(200, 9);
        for (int i = 0; i < 199; i++) {
            x.twice(i);
        }
        counted(x, 200, 0, 200, "two hundred");
        DUE.be(PREPARE, x.deliver(199), "the last is DELIVERED");
        counted(x, 201, 0, 200, "its VOTE takes its place");
        DUE.be(VOTE, x.drop(199), "it is the last");
        DUE.be(BAD, x.drop(199), "none more");
        DUE.be(199, x.play(1, 199), "all that come");
        DUE.be(1, x.node(0, 1), "VOTED once");
    }

    // ---- KEYS LOCKED by the last TXN that there is

    private static Store sixteen() {
        Store x = new Store(4, 3, 16, 32, 50, 50);
        for (int txn = 0; txn <= 15; txn++) {
            x.begin(txn);
        }
        return x;
    }

    private static void lastTxnExclusive() {
        Store x = sixteen();
        DUE.be(1, x.write(15, 31, 5), "write of the last TXN");
        DUE.be(1, x.lock(31, 0), "one has it");
        DUE.be(15, x.lock(31, 1), "the last");
        DUE.be(1, x.lock(31, 2), "EXCLUSIVE");
        for (int txn = 0; txn <= 14; txn++) {
            DUE.be(2, x.write(txn, 31, 6), "not granted to another");
            DUE.be(0, x.read(txn, 31), "nor read");
            DUE.be(2, x.readStatus(), "not granted");
        }
        DUE.be(5, x.read(15, 31), "it has it itself");
    }

    private static void lastTxnShared() {
        Store x = sixteen();
        x.read(15, 31);
        DUE.be(15, x.lock(31, 1), "the last TXN");
        DUE.be(0, x.lock(31, 2), "SHARED");
        for (int txn = 0; txn <= 14; txn++) {
            DUE.be(2, x.write(txn, 31, 6), "not EXCLUSIVE to another");
        }
        DUE.be(1, x.lock(31, 0), "who was refused has none");
        DUE.be(1, x.write(15, 31, 6), "EXCLUSIVE to itself");
    }

    private static void allTxnsShared() {
        Store x = sixteen();
        for (int txn = 15; txn >= 0; txn--) {
            x.read(txn, 31);
            DUE.be(1, x.readStatus(), "SHARED by any");
            DUE.be(txn, x.lock(31, 1), "the least of these");
            DUE.be(16 - txn, x.lock(31, 0), "how many have it");
        }
        DUE.be(16, x.node(3, 2), "sixteen SESSIONS");
        for (int txn = 0; txn <= 14; txn++) {
            DUE.be(2, x.write(15, 31, 1), "not EXCLUSIVE while another has it");
            x.abort(txn);
        }
        DUE.be(15, x.lock(31, 1), "the last alone");
        DUE.be(1, x.write(15, 31, 1), "EXCLUSIVE then");
    }

    private static void lastTxnEnds() {
        Store x = sixteen();
        x.write(15, 31, 5);
        x.requestCommit(15);
        x.play(2, 400);
        DUE.be(0, x.lock(31, 0), "none has it");
        DUE.be(BAD, x.lock(31, 1), "none is the least");
        DUE.be(0, x.lock(31, 2), "not EXCLUSIVE");
        DUE.be(5, x.read(14, 31), "another READS what it wrote");
        DUE.be(14, x.lock(31, 1), "and has it");
    }

    /** "(who has it SHARED has it EXCLUSIVE then)": it is counted once, and a READ leaves it so. */
    private static void upgrade() {
        Store x = sixteen();
        x.read(15, 0);
        x.write(15, 0, 3);
        DUE.be(1, x.lock(0, 0), "once");
        DUE.be(1, x.lock(0, 2), "EXCLUSIVE");
        DUE.be(3, x.read(15, 0), "READ");
        DUE.be(1, x.lock(0, 2), "EXCLUSIVE still");
        x.requestCommit(15);
        x.deliver(0);
        DUE.be(1, x.lock(0, 0), "it is no SHARED LOCK that goes");
        x.read(14, 4);
        DUE.be(1, x.node(0, 2) - 1, "two SESSIONS");
        x.requestCommit(14);
        x.send(PREPARE, 0);
        DUE.be(0, x.lock(4, 0), "a SHARED LOCK goes");
        DUE.be(2, x.node(0, 2), "the SESSION stays");
    }

    // ---- the greatest and the least long

    private static void longs() {
        for (long value : new long[] {Long.MAX_VALUE, Long.MIN_VALUE, 1L << 32, -1L << 31, 1L << 31, 0x7fffffffL, -2L}) {
            Store x = Scenes.fresh();
            x.begin(0);
            DUE.be(1, x.write(0, 0, value), "write of " + value);
            DUE.be(value, x.read(0, 0), "READ of the NEW VALUE " + value);
            DUE.be(0, x.committedValue(0), "the VALUE is as before");
            x.requestCommit(0);
            x.play(1, 400);
            DUE.be(value, x.committedValue(0), "committedValue of " + value);
            x.begin(1);
            DUE.be(value, x.read(1, 0), "READ of the VALUE " + value);
            x.write(1, 0, -value);
            DUE.be(-value, x.read(1, 0), "READ of " + -value);
            x.abort(1);
            DUE.be(value, x.committedValue(0), "ABORTED, it is " + value + " still");
        }
    }

    /** A VALUE of -1 or 0 is a VALUE; readStatus() tells it from BAD and from none. */
    private static void valuesThatLookLikeAnswers() {
        Store x = Scenes.fresh();
        x.begin(0);
        x.write(0, 0, -1);
        DUE.be(-1, x.read(0, 0), "READ of -1");
        DUE.be(1, x.readStatus(), "it READS");
        x.requestCommit(0);
        x.play(1, 400);
        DUE.be(-1, x.committedValue(0), "committedValue of -1");
        x.begin(1);
        x.write(1, 0, 0);
        DUE.be(0, x.read(1, 0), "READ of a NEW VALUE of 0");
        DUE.be(1, x.readStatus(), "it READS");
        x.requestCommit(1);
        x.play(1, 400);
        DUE.be(0, x.committedValue(0), "a NEW VALUE of 0 is one");
    }

    // ---- promise 17

    private static void playNumbers() {
        for (int n : new int[] {-1, 401, MIN, MAX, -400, 512}) {
            Store x = Scenes.asked();
            DUE.be(BAD, x.play(1, n), "play(1, " + n + ")");
            DUE.be(2, x.pending(), "nothing is DELIVERED");
        }
        for (int n = 0; n <= 3; n++) {
            Store x = Scenes.asked();
            DUE.be(n, x.play(1, n), "play(1, " + n + ")");
            DUE.be(n, x.count(2), "so many are DELIVERED");
        }
        Store x = Scenes.asked();
        DUE.be(17, x.play(1, 400), "play(1, 400): till none is left");
        x = Scenes.asked();
        DUE.be(17, x.play(1, 17), "just as many as there are");
        x = Scenes.asked();
        DUE.be(16, x.play(1, 16), "one less");
        DUE.be(1, x.pending(), "one is left");
        DUE.be(1, x.play(1, 1), "the last");
    }

    /** Nine TXNS at four SHARDS and five ACCEPTORS: 9 * (4 + 20 + 20 + 5) MESSAGES, never over 200 at once. */
    private static Store muchToPlay() {
        Store x = new Store(4, 5, 9, 32, 200, 200);
        for (int txn = 0; txn < 9; txn++) {
            x.begin(txn);
            for (int shard = 0; shard < 4; shard++) {
                x.read(txn, shard);
            }
            x.requestCommit(txn);
        }
        return x;
    }

    private static void playMoreThanFourHundred() {
        Store x = muchToPlay();
        DUE.be(399, x.play(3, 399), "399 of more");
        x = muchToPlay();
        DUE.be(BAD, x.play(3, 401), "401 of more");
        DUE.be(400, x.play(3, 400), "400 of more");
        DUE.be(400, x.count(2), "so many are DELIVERED");
        DUE.be(0, x.count(1), "none is LOST");
        DUE.be(41, x.play(3, 400), "441 there are in all");
        DUE.be(9, x.count(3), "all are COMMITTED");
    }

    /** Whoever is DOWN or MUTE: what it was sent is DELIVERED, and counted. */
    private static void playCountsDownAndMute() {
        Store x = Scenes.asked();
        x.crash(0);
        x.crash(1);
        DUE.be(2, x.play(1, 400), "to nodes that are DOWN");
        DUE.be(2, x.count(2), "so many are DELIVERED");
        x = oneAsked(9, 1);
        x.begin(1);
        x.write(1, 1, 7);
        x.deliver(0);
        x.requestCommit(1);
        DUE.be(10, x.deliver(1), "MUTE");
        x.requestCommit(1);
        DUE.be(4, x.play(1, 400), "VOTE, ACCEPTED, END, and END to one that is MUTE");
        DUE.be(6, x.count(2), "so many are DELIVERED");
    }

    private static void playSeeds() {
        long[] seeds = {0, 1, -1, Long.MIN_VALUE, Long.MAX_VALUE, 1L << 32, (1L << 32) - 1, 1L << 62, -6364136223846793005L};
        for (long seed : seeds) {
            Store played = muchToPlay();
            Store moved = muchToPlay();
            DUE.be(60, played.play(seed, 60), "play(" + seed + ", 60)");
            BigInteger x = BigInteger.valueOf(seed);
            for (int i = 0; i < 60; i++) {
                x = x.multiply(BigInteger.valueOf(6364136223846793005L)).add(BigInteger.valueOf(1442695040888963407L));
                int all = moved.pending();
                moved.deliver(x.shiftRight(32).mod(BigInteger.ONE.shiftLeft(31)).mod(BigInteger.valueOf(all)).intValue());
            }
            int all = moved.pending();
            DUE.be(all, played.pending(), "seed " + seed + ": as many are left");
            for (int i = 0; i < all && i < 40; i++) {
                for (int what : new int[] {0, 1, 2, 4, 6}) {
                    DUE.be(moved.message(i, what), played.message(i, what), "seed " + seed + ": MESSAGE " + i);
                }
            }
        }
    }

    // ---- Terms 1

    /** "KEY k lies in SHARD k modulo S". */
    private static void keysModuloShards() {
        for (int s = 1; s <= 4; s++) {
            Store x = new Store(s, 1, 1, 32, 9, 9);
            x.begin(0);
            x.crash(s - 1);
            for (int key = 0; key < 32; key++) {
                DUE.be(key % s == s - 1 ? 3 : 1, x.write(0, key, 1), "KEY " + key + " of " + s + " SHARDS");
            }
        }
    }

    /** "BALLOT b is of ACCEPTOR b modulo A": to whom ACCEPTED and PROMISE are POSTED. */
    private static void ballotsModuloAcceptors() {
        for (int a : new int[] {1, 3, 5}) {
            Store x = new Store(1, a, 1, 1, 60, 60);
            x.begin(0);
            x.write(0, 0, 7);
            x.requestCommit(0);
            for (int round = 0; round < 3; round++) {
                for (int i = 0; i < a; i++) {
                    x.dropAll();
                    int ballot = x.timeout(1 + i, 0);
                    DUE.be(i, ballot % a, "a BALLOT of its own, of " + a);
                    x.send(ASK, 1);
                    boolean answered = x.ballot(1, 0, 0) == ballot;
                    DUE.be(answered ? a : a - 1, x.pending(), "ASKS and a PROMISE");
                    DUE.be(answered ? 1 + i : BAD, x.message(x.find(PROMISE, 1 + i), 1), "PROMISE to its ACCEPTOR");
                }
            }
        }
    }

    // ---- promise 13: the least BALLOT of its own

    /** "above 0": ACCEPTOR 0 takes A, not 0; others their own number. */
    private static void leastBallotAboveZero() {
        for (int a : new int[] {1, 3, 5}) {
            for (int i = 0; i < a; i++) {
                Store x = new Store(1, a, 1, 1, 60, 60);
                x.begin(0);
                x.read(0, 0);
                x.requestCommit(0);
                DUE.be(i == 0 ? a : i, x.timeout(1 + i, 0), "the first BALLOT of ACCEPTOR " + i + " of " + a);
            }
        }
    }

    /** "above the one that it LEADS". */
    private static void leastBallotAboveLed() {
        Store x = Scenes.asked();
        for (int ballot = 1; ballot <= 13; ballot += 3) {
            DUE.be(ballot, x.timeout(3, 0), "again");
            DUE.be(ballot, x.ballot(3, 0, 1), "it LEADS that");
        }
    }

    /** "and above what it PROMISED": just below its own, its own, and just above it. */
    private static void leastBallotAbovePromised() {
        Store x = Scenes.asked();
        x.timeout(2, 0);
        x.send(ASK, 3);
        DUE.be(3, x.ballot(3, 0, 0), "it PROMISED 3");
        DUE.be(4, x.timeout(3, 0), "4 is its own");
        x.fallAndRise(3);
        DUE.be(4, x.ballot(3, 0, 0), "it PROMISED 4, LEADS none");
        DUE.be(7, x.timeout(3, 0), "4 is not above 4");
        x = Scenes.asked();
        x.timeout(4, 0);
        x.send(ASK, 3);
        DUE.be(2, x.ballot(3, 0, 0), "it PROMISED 2");
        DUE.be(4, x.timeout(3, 0), "1 is not above 2");
        DUE.be(3, x.timeout(2, 0), "another PROMISED nothing");
        x = Scenes.asked();
        x.timeout(4, 0);
        x.send(ASK, 2);
        x.send(ASK, 3);
        x.send(PROMISE, 4);
        x.send(PROMISE, 4);
        x.dropAll();
        DUE.be(3, x.timeout(2, 0), "above 2, which it PROMISED");
        DUE.be(0, x.timeout(3, 1), "another TXN is not asked about");
        x.requestCommit(1);
        DUE.be(1, x.timeout(3, 1), "what it PROMISED is of each TXN alone");
    }

    // ---- "a majority of the ACCEPTORS"

    /** TXN 0 wrote KEY 0 of the one SHARD (node 0); ACCEPTORS are nodes 1 .. a; its VOTES wait. */
    private static Store oneShardVoted(int a, boolean yes) {
        Store x = new Store(1, a, 1, 1, 60, 60);
        x.begin(0);
        x.write(0, 0, 7);
        x.requestCommit(0);
        if (!yes) {
            x.fallAndRise(0);
        }
        x.deliver(0);
        return x;
    }

    private static void majorityOfPromises() {
        for (int a : new int[] {1, 3, 5}) {
            int most = a / 2 + 1;
            Store x = oneShardVoted(a, true);
            x.dropAll();
            x.timeout(a, 0);
            x.deliverFirst(a);
            for (int i = 1; i <= a; i++) {
                int before = x.pending();
                x.deliver(0);
                DUE.be(before - 1 + (i == most ? a : 0), x.pending(), "PROMISE " + i + " of " + a);
                DUE.be(Math.min(i, most), x.ballot(a, 0, 3), "counted of " + a);
            }
        }
    }

    private static void majorityOfVotes(boolean yes) {
        for (int a : new int[] {1, 3, 5}) {
            int most = a / 2 + 1;
            Store x = oneShardVoted(a, yes);
            x.deliverFirst(a);
            for (int i = 1; i <= a; i++) {
                int before = x.pending();
                x.deliver(0);
                String how = "ACCEPTED " + i + " of " + a + (yes ? " YES" : " NO");
                DUE.be(before - 1 + (i == most ? 2 : 0), x.pending(), how + ": ENDS are POSTED once");
                DUE.be(i < most ? 0 : yes ? 3 : 4, x.ballot(1, 0, 2), how + ": what it KNOWS");
                DUE.be(Math.min(i, most), x.accepted(1, 0, 0, 2), how + ": counted");
                DUE.be(i < most ? 0 : 1, x.node(1, 4), how + ": how many ends it KNOWS");
            }
        }
    }

    private static void majorityOfYes() {
        majorityOfVotes(true);
    }

    private static void majorityOfNo() {
        majorityOfVotes(false);
    }

    /** "if for all of these with YES": one that lacks is enough to wait; "for some .. with NO": one is enough. */
    private static void everyTouchedShardWithYes() {
        Store x = Scenes.accepting();
        x.drop(5);
        x.drop(4);
        x.deliverFirst(4);
        DUE.be(3, x.accepted(2, 0, 0, 2), "all three of SHARD 0");
        DUE.be(1, x.accepted(2, 0, 1, 2), "one of SHARD 1");
        DUE.be(0, x.ballot(2, 0, 2), "is not all");
        DUE.be(0, x.pending(), "no END");
        x = Scenes.votedNo();
        x.deliverFirst(6);
        x.deliver(3);
        x.deliver(3);
        DUE.be(0, x.accepted(2, 0, 0, 2), "none of SHARD 0");
        DUE.be(4, x.ballot(2, 0, 2), "NO of SHARD 1 is enough");
        x = new Store(4, 1, 1, 4, 60, 60);
        x.begin(0);
        x.write(0, 0, 1);
        x.write(0, 3, 1);
        x.requestCommit(0);
        x.deliverFirst(6);
        DUE.be(3, x.ballot(4, 0, 2), "SHARDS that it does not TOUCH do not matter");
        DUE.be(3, x.pending(), "nor are they told");
        DUE.be(3, x.message(1, 1), "END to the last");
    }

    // ---- Terms 4

    /** "10 SHARD and VOTE". */
    private static void entryOfLastShard() {
        Store x = new Store(4, 1, 2, 4, 60, 60);
        x.begin(1);
        x.write(1, 3, 1);
        x.write(1, 2, 1);
        x.requestCommit(1);
        x.fallAndRise(2);
        x.deliverFirst(4);
        int[][] want = {{4, 1, 0, 22}, {4, 1, 0, 31}};
        for (int i = 0; i < 2; i++) {
            for (int what = 0; what <= 3; what++) {
                DUE.be(want[i][what], x.entry(4, i, what), "entry(4, " + i + ", " + what + ")");
            }
        }
    }

    /** "A SHARD has a SESSION of a TXN, from the first of its LOCKS on that it grants". */
    private static void sessionFromFirstLock() {
        Store x = Scenes.fresh();
        x.begin(0);
        x.begin(1);
        DUE.be(0, x.node(0, 2), "none at first");
        x.write(0, 0, 1);
        DUE.be(1, x.node(0, 2), "one by a LOCK");
        x.write(1, 0, 1);
        DUE.be(1, x.node(0, 2), "none by one that is not granted");
        x.read(1, 2);
        DUE.be(2, x.node(0, 2), "one by a SHARED LOCK");
        x.read(1, 4);
        DUE.be(2, x.node(0, 2), "no other by another LOCK");
        DUE.be(0, x.node(1, 2), "none at another SHARD");
    }

    /** "of several the first: 0 .. 3 .. 4 .. 2": each two that can come together. */
    private static void ofSeveralTheFirst() {
        Store x = Scenes.asked();
        x.deliver(0);
        x.begin(2);
        x.read(2, 4);
        x.crash(0);
        DUE.be(1, x.lock(0, 2), "KEY 0 is EXCLUSIVE by one that VOTED YES");
        how(x, 3, 0, 0, "not ACTIVE, DOWN, LOCKED");
        how(x, 2, 0, 3, "DOWN, gone, LOCKED");
        x.begin(3);
        how(x, 3, 0, 3, "DOWN, LOCKED");
        x.restart(0);
        how(x, 2, 0, 4, "gone, LOCKED");
        how(x, 3, 0, 2, "LOCKED");
        x.abort(2);
        how(x, 2, 0, 0, "not ACTIVE, gone, LOCKED");
        how(x, 2, 2, 0, "not ACTIVE, gone");
        x.crash(0);
        how(x, 2, 4, 0, "not ACTIVE, DOWN, gone");
        how(x, 3, 4, 3, "DOWN");
        x.restart(0);
        how(x, 3, 4, 1, "granted");
    }

    private static void how(Store x, int txn, int key, int want, String how) {
        x.read(txn, key);
        DUE.be(want, x.readStatus(), how + ": read");
        DUE.be(want, x.write(txn, key, 1), how + ": write");
    }

    /** "all SESSIONS END but those of TXNS that VOTED YES here and are not DECIDED". */
    private static void fallKeepsOnlyYes() {
        Store x = Scenes.fresh();
        for (int txn = 0; txn <= 3; txn++) {
            x.begin(txn);
        }
        x.write(0, 0, 1);
        x.write(1, 2, 2);
        x.write(2, 4, 3);
        x.write(3, 1, 4);
        x.requestCommit(0);
        x.deliver(0);
        x.requestCommit(1);
        x.requestCommit(3);
        DUE.be(3, x.node(0, 2), "three SESSIONS");
        x.crash(0);
        DUE.be(1, x.node(0, 2), "that which VOTED YES");
        DUE.be(0, x.lock(0, 1), "its LOCK stays");
        DUE.be(0, x.lock(2, 0), "that of one ASKED, not VOTED, goes");
        DUE.be(0, x.lock(4, 0), "that of one ACTIVE goes");
        DUE.be(1, x.lock(1, 0), "another SHARD'S stays");
        x.restart(0);
        DUE.be(1, x.node(0, 2), "none comes back");
        x.play(1, 400);
        DUE.be(3, x.outcome(0), "COMMITTED");
        DUE.be(1, x.committedValue(0), "its NEW VALUE was kept");
        DUE.be(4, x.outcome(1), "ABORTED: no SESSION, NO");
        DUE.be(0, x.committedValue(2), "its NEW VALUE is gone");
        DUE.be(3, x.outcome(3), "COMMITTED elsewhere");
        x.crash(0);
        DUE.be(0, x.node(0, 2), "none of one DECIDED");
        DUE.be(1, x.committedValue(0), "VALUES stay");
    }

    /** "and LEADS as at first": ACCEPTOR 0 BALLOT 0, others none. */
    private static void fallLeadsAsAtFirst() {
        Store x = Scenes.asked();
        for (int node = 2; node <= 4; node++) {
            int first = node == 2 ? 0 : BAD;
            DUE.be(first, x.ballot(node, 0, 1), "at first");
            int ballot = x.timeout(node, 0);
            DUE.be(ballot, x.ballot(node, 0, 1), "it took over");
            DUE.be(first, x.ballot(node, 1, 1), "of another TXN as at first");
            x.crash(node);
            DUE.be(first, x.ballot(node, 0, 1), "it fell");
            x.restart(node);
            DUE.be(first, x.ballot(node, 0, 1), "it rose");
            DUE.be(ballot, x.ballot(node, 0, 0), "what it PROMISED stays");
        }
    }

    /** "NO, if none tells one": of each SHARD alone. */
    private static void voteIfNoneTellsOne() {
        Store x = Scenes.takenOver();
        x.deliver(0);
        for (int to = 2; to <= 4; to++) {
            int i = x.find(VOTE, to);
            DUE.be(0, x.message(i, 4), "of SHARD 0 first");
            DUE.be(1, x.message(i, 5), "YES, which one of two told");
            x.drop(i);
            i = x.find(VOTE, to);
            DUE.be(1, x.message(i, 4), "of SHARD 1");
            DUE.be(2, x.message(i, 5), "NO, since none told one");
        }
    }

    /** "of each SHARD the VOTE of the greatest BALLOT that any of these tells": BALLOT 0 is more than none. */
    private static void voteOfGreatestBallot() {
        for (int yesFirst = 0; yesFirst <= 1; yesFirst++) {
            Store x = Scenes.takenOver();
            x.deliver(0);
            x.dropAll();
            x.timeout(4, 0);
            x.send(ASK, 3 - yesFirst);
            x.send(ASK, 2 + yesFirst);
            x.send(PROMISE, 4);
            x.send(PROMISE, 4);
            int i = x.find(VOTE, 4);
            DUE.be(2, x.message(i, 3), "VOTES of BALLOT 2");
            DUE.be(1, x.message(i, 5), "YES of 0, in whichever order it is told");
        }
    }

    /** Promise 20: "3 whom it PROMISED nothing above 0": to ACCEPT at 0 is nothing above 0. */
    private static void promisedNothingAboveZero() {
        Store x = Scenes.voted();
        DUE.be(4, x.node(2, 3), "at first all");
        x.send(VOTE, 2);
        DUE.be(0, x.accepted(2, 0, 0, 0), "it ACCEPTED at 0");
        DUE.be(4, x.node(2, 3), "that is nothing above 0");
        x.timeout(3, 0);
        DUE.be(3, x.node(3, 3), "1 is above 0");
        x.send(ASK, 2);
        DUE.be(3, x.node(2, 3), "1 is above 0");
        x.fallAndRise(2);
        DUE.be(3, x.node(2, 3), "it stays");
    }

    /** "(BAD: none)", next to a BALLOT 0 and a TXN 0 that there are. */
    private static void noneIsBad() {
        Store x = Scenes.begun();
        DUE.be(BAD, x.lock(5, 1), "the least TXN of none");
        DUE.be(0, x.lock(0, 1), "the least is TXN 0");
        DUE.be(BAD, x.ballot(3, 0, 1), "LEADS none");
        DUE.be(0, x.ballot(2, 0, 1), "LEADS 0");
        x.requestCommit(0);
        x.deliver(0);
        DUE.be(BAD, x.accepted(2, 0, 0, 0), "ACCEPTED none");
        x.send(VOTE, 2);
        DUE.be(0, x.accepted(2, 0, 0, 0), "ACCEPTED at 0");
        DUE.be(BAD, x.accepted(2, 0, 1, 0), "of the other SHARD none");
        DUE.be(BAD, x.accepted(2, 1, 0, 0), "of another TXN none");
    }

    /** Promise 18: "0 of what it has not": what the six kinds have, all numbers that they can have above 0. */
    private static void notHadIsZero() {
        Store x = new Store(2, 3, 4, 6, 60, 60);
        x.begin(3);
        x.write(3, 1, 7);
        x.requestCommit(3);
        is(x, 0, new int[] {PREPARE, 1, 3, 0, 0, 0, 5});
        x.deliver(0);
        is(x, 2, new int[] {VOTE, 4, 3, 0, 1, 1, 1});
        x.deliverFirst(3);
        is(x, 2, new int[] {ACCEPTED, 2, 3, 0, 1, 1, 4});
        x.dropAll();
        x.timeout(4, 3);
        is(x, 2, new int[] {ASK, 4, 3, 2, 0, 0, 4});
        x.deliverFirst(3);
        is(x, 0, new int[] {PROMISE, 4, 3, 2, 0, 0, 2});
        x.deliverFirst(3);
        is(x, 0, new int[] {VOTE, 2, 3, 2, 1, 1, 4});
        x.deliverFirst(3);
        is(x, 0, new int[] {ACCEPTED, 4, 3, 2, 1, 1, 2});
        x.deliverFirst(3);
        is(x, 0, new int[] {END, 1, 3, 0, 0, 3, 4});
        is(x, 1, new int[] {END, 5, 3, 0, 0, 3, 4});
    }

    private static void is(Store x, int i, int[] want) {
        for (int what = 0; what < want.length; what++) {
            DUE.be(want[what], x.message(i, what), "kind " + want[0] + ": message(" + i + ", " + what + ")");
        }
    }

    /** Promise 7: "its SESSIONS at SHARDS that are UP END": that at one that is DOWN has ended by its fall. */
    private static void abortWithShardDown() {
        Store x = Scenes.begun();
        x.crash(1);
        DUE.be(1, x.abort(0), "abort");
        DUE.be(4, x.outcome(0), "it is ABORTED");
        DUE.be(1, x.node(0, 2), "TXN 1 has the only SESSION at the one that is UP");
        DUE.be(1, x.lock(2, 1), "and its LOCK");
        DUE.be(0, x.node(1, 2), "none at the one that is DOWN");
        x.restart(1);
        DUE.be(0, x.node(1, 2), "nor when it is UP again");
        DUE.be(1, x.write(1, 1, 5), "its KEY is free");
        DUE.be(0, x.pending(), "nothing is POSTED");
    }

    /** "An object is used for at most 512 calls": the 512th is answered as any other. */
    private static void lastCalls() {
        Store x = Scenes.begun();
        for (int calls = 6; calls < 508; calls++) {
            x.pending();
        }
        DUE.be(2, x.requestCommit(0), "the 509th call");
        DUE.be(17, x.play(1, 400), "the 510th call");
        DUE.be(7, x.committedValue(0), "the 511th call");
        DUE.be(3, x.outcome(0), "the 512th call");
    }
}
