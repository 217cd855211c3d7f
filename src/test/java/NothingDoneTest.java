import java.util.function.Supplier;

/**
 * MESSAGES that are taken out, and that is all: to a node that is DOWN (9), to one that is MUTE (10), and those of
 * which the document says "nothing" (answered by their kind). And next to each bound, the MESSAGE that does something.
 */
public final class NothingDoneTest {
    private static final Due DUE = new Due("NothingDoneTest");
    private static final Twins TWINS = new Twins(DUE);
    private static final int CLIENT = 5;
    private static final int PREPARE = 1;
    private static final int VOTE = 2;
    private static final int ACCEPTED = 3;
    private static final int ASK = 4;
    private static final int PROMISE = 5;
    private static final int END = 6;
    private static final int DOWN = 9;
    private static final int MUTE = 10;

    public static void main(String[] args) {
        downShard();
        downAcceptor();
        clientHearsWhileAllAreDown();
        mutePrepareYes();
        mutePrepareNo();
        muteVote();
        muteVoteOfGreaterBallot();
        muteAsk();
        muteEndCommitted();
        muteEndAborted();
        lastEntryIsWritten();
        fullLogButNoEntryNeeded();
        fullLogAndNothingToDo();
        prepareDecided();
        voteBelowPromised();
        acceptedNotLed();
        acceptedOfOneThatKnows();
        acceptedCountedOnce();
        askBelowPromised();
        promiseNotLed();
        promiseBehindMajority();
        promiseCountedOnce();
        endDecided();
        endToClientNotAsked();
        DUE.end();
    }

    private static void nothing(String what, Supplier<Store> scene, int kind, int to) {
        TWINS.onlyTakenOut(what, scene, kind, kind, to);
    }

    private static Supplier<Store> down(Supplier<Store> scene, int node) {
        return () -> {
            Store x = scene.get();
            x.crash(node);
            return x;
        };
    }

    // ---- "if its node is DOWN, that is all"

    private static void downShard() {
        TWINS.onlyTakenOut("PREPARE to one down", down(Scenes::asked, 0), DOWN, PREPARE, 0);
        TWINS.onlyTakenOut("END to one down", down(Scenes::known, 1), DOWN, END, 1);
    }

    private static void downAcceptor() {
        TWINS.onlyTakenOut("VOTE to one down", down(Scenes::voted, 4), DOWN, VOTE, 4);
        TWINS.onlyTakenOut("ACCEPTED to one down", down(Scenes::accepting, 2), DOWN, ACCEPTED, 2);
        TWINS.onlyTakenOut("ASK to one down", down(NothingDoneTest::asking, 2), DOWN, ASK, 2);
        TWINS.onlyTakenOut("PROMISE to one down", down(Scenes::takenOver, 3), DOWN, PROMISE, 3);
    }

    /** "THE CLIENT, which never falls". */
    private static void clientHearsWhileAllAreDown() {
        Store x = Scenes.known();
        for (int node = 0; node < CLIENT; node++) {
            x.crash(node);
        }
        DUE.be(-1, x.crash(CLIENT), "the client never falls");
        DUE.be(END, x.send(END, CLIENT), "END to the client, all others down");
        DUE.be(3, x.outcome(0), "it hears");
    }

    /** 3 leads 1: ASK to 2, 3, 4 behind the two PREPARES. */
    private static Store asking() {
        Store x = Scenes.asked();
        x.timeout(3, 0);
        return x;
    }

    // ---- "Where a node is to write an ENTRY and its LOG has L, it is MUTE"

    /** LOGS of one ENTRY; TXN 1 asks, too, behind TXN 0, and SHARD 0 has voted of TXN 0. */
    private static Store secondPrepare() {
        Store x = Scenes.asked(20, 1);
        x.deliver(0);
        x.requestCommit(1);
        return x;
    }

    private static void mutePrepareYes() {
        TWINS.onlyTakenOut("PREPARE with a session, log full", NothingDoneTest::secondPrepare, MUTE, PREPARE, 0);
        Store x = secondPrepare();
        DUE.be(MUTE, x.send(PREPARE, 0), "mute");
        DUE.be(1, x.lock(2, 0), "its SHARED LOCK stays");
    }

    private static void mutePrepareNo() {
        Supplier<Store> scene = () -> {
            Store x = secondPrepare();
            x.fallAndRise(0);
            return x;
        };
        TWINS.onlyTakenOut("PREPARE without a session, log full", scene, MUTE, PREPARE, 0);
    }

    private static void muteVote() {
        TWINS.onlyTakenOut("VOTE of another SHARD, log full", Scenes::logsFull, MUTE, VOTE, 2);
        Store x = Scenes.logsFull();
        DUE.be(VOTE, x.send(VOTE, 3), "VOTE to one whose log is not full");
    }

    /** 2 has accepted YES of SHARD 0 at 0 and its log is full; 3 leads 1 with the PROMISES of 3 and 4. */
    private static Store voteOfOne() {
        Store x = Scenes.asked(20, 1);
        x.deliver(0);
        x.drop(0);
        x.deliver(0);
        x.dropAll();
        x.timeout(3, 0);
        x.deliver(1);
        x.deliver(1);
        x.drop(0);
        x.deliverFirst(2);
        return x;
    }

    private static void muteVoteOfGreaterBallot() {
        DUE.be(1, voteOfOne().message(0, 3), "a VOTE of BALLOT 1");
        TWINS.onlyTakenOut("VOTE of a greater BALLOT, log full", NothingDoneTest::voteOfOne, MUTE, VOTE, 2);
    }

    private static void muteAsk() {
        Supplier<Store> scene = () -> {
            Store x = Scenes.logsFull();
            x.timeout(3, 0);
            return x;
        };
        TWINS.onlyTakenOut("ASK above what it PROMISED, log full", scene, MUTE, ASK, 2);
    }

    /** One SHARD, one ACCEPTOR (node 1); the SHARD'S LOG holds what it VOTED and no more. */
    private static Store endWithFullLog(boolean commits) {
        Store x = new Store(1, 1, 2, 2, 20, 1);
        x.begin(0);
        x.write(0, 0, 7);
        x.requestCommit(0);
        if (!commits) {
            x.fallAndRise(0);
        }
        x.deliverFirst(3);
        return x;
    }

    private static void muteEndCommitted() {
        TWINS.onlyTakenOut("END COMMITTED, log full", () -> endWithFullLog(true), MUTE, END, 0);
        Store x = endWithFullLog(true);
        x.deliverFirst(2);
        DUE.be(3, x.outcome(0), "the client hears of it");
        DUE.be(0, x.committedValue(0), "the shard's VALUE stays");
        DUE.be(1, x.lock(0, 2), "its LOCK stays");
        DUE.be(1, x.node(0, 2), "its SESSION stays");
    }

    private static void muteEndAborted() {
        TWINS.onlyTakenOut("END ABORTED, log full", () -> endWithFullLog(false), MUTE, END, 0);
    }

    /** With L - 1 ENTRIES there is room for one more, of each KIND. */
    private static void lastEntryIsWritten() {
        Store x = Scenes.asked(20, 1);
        DUE.be(PREPARE, x.deliver(0), "VOTED is the only ENTRY");
        DUE.be(1, x.entry(0, 0, 0), "VOTED");
        x = Scenes.asked(20, 1);
        x.fallAndRise(0);
        DUE.be(PREPARE, x.deliver(0), "VOTED NO is the only ENTRY");
        DUE.be(2, x.entry(0, 0, 2), "NO");
        x = Scenes.asked(20, 1);
        x.deliver(0);
        DUE.be(VOTE, x.send(VOTE, 2), "ACCEPTED is the only ENTRY");
        DUE.be(4, x.entry(2, 0, 0), "ACCEPTED");
        x = Scenes.asked(20, 1);
        DUE.be(1, x.timeout(3, 0), "PROMISED by taking over is the only ENTRY");
        DUE.be(3, x.entry(3, 0, 0), "PROMISED");
        DUE.be(ASK, x.send(ASK, 2), "PROMISED is the only ENTRY");
        DUE.be(3, x.entry(2, 0, 0), "PROMISED");
        x = Scenes.asked(20, 2);
        x.play(1, 400);
        DUE.be(3, x.outcome(0), "two ENTRIES do for one TXN");
        DUE.be(2, x.entry(0, 1, 0), "DECIDED is the last of two");
        DUE.be(7, x.committedValue(0), "and done");
    }

    // ---- with L ENTRIES, but none to write: not MUTE

    private static void fullLogButNoEntryNeeded() {
        Store x = Scenes.asked(20, 1);
        x.twice(0);
        x.deliver(0);
        DUE.be(PREPARE, x.send(PREPARE, 0), "PREPARE where it VOTED, log full");
        DUE.be(7, x.pending(), "VOTES again, behind PREPARE to 1");
        x.send(VOTE, 2);
        DUE.be(VOTE, x.send(VOTE, 2), "VOTE that is ACCEPTED already, log full");
        DUE.be(7, x.pending(), "ACCEPTED again");
        DUE.be(ACCEPTED, x.send(ACCEPTED, 2), "ACCEPTED, log full");
        DUE.be(1, x.accepted(2, 0, 0, 2), "is counted");
        x.timeout(3, 0);
        DUE.be(ASK, x.send(ASK, 3), "ASK of what it PROMISED, log full");
        DUE.be(PROMISE, x.send(PROMISE, 3), "PROMISE, log full");
        DUE.be(1, x.ballot(3, 0, 3), "is counted");
        x.send(ASK, 4);
        DUE.be(PROMISE, x.send(PROMISE, 3), "PROMISE, log full");
        DUE.be(2, x.ballot(3, 0, 3), "is counted");
        DUE.be(1, x.message(x.pending() - 1, 3), "and VOTES of 1 posted");
        x = endWithFullLog(true);
        DUE.be(3, x.ballot(1, 0, 2), "one whose log is full comes to know an end");
    }

    /** "nothing" comes ahead of MUTE: no ENTRY is to be written. */
    private static void fullLogAndNothingToDo() {
        Supplier<Store> decided = () -> {
            Store x = Scenes.asked(20, 2);
            x.twice(0);
            x.deliverFirst(2);
            for (int i = 0; i < 5; i++) {
                x.send(VOTE, 2);
                x.send(VOTE, 3);
                x.send(ACCEPTED, 2);
            }
            x.twice(x.find(END, 0));
            x.send(END, 0);
            return x;
        };
        DUE.be(2, decided.get().node(0, 1), "the log is full");
        nothing("PREPARE where it DECIDED, log full", decided, PREPARE, 0);
        nothing("END where it DECIDED, log full", decided, END, 0);
        Supplier<Store> promised = () -> {
            Store x = Scenes.asked(20, 1);
            x.deliver(0);
            x.timeout(3, 0);
            x.timeout(4, 0);
            return x;
        };
        nothing("VOTE below what it PROMISED, log full", promised, VOTE, 3);
        nothing("ASK below what it PROMISED, log full", promised, ASK, 4);
    }

    // ---- "nothing"

    /** PREPARE "if it is DECIDED here, nothing". */
    private static void prepareDecided() {
        DUE.be(3, endedWithPrepare(true).entry(0, 1, 2), "it DECIDED COMMITTED");
        nothing("PREPARE where it DECIDED COMMITTED", () -> endedWithPrepare(true), PREPARE, 0);
        DUE.be(4, endedWithPrepare(false).entry(0, 1, 2), "it DECIDED ABORTED");
        nothing("PREPARE where it DECIDED ABORTED", () -> endedWithPrepare(false), PREPARE, 0);
    }

    /** TXN 0 has ended at all that heard of it, but a PREPARE, and an END, to SHARD 0 wait. */
    private static Store endedWithPrepare(boolean commits) {
        Store x = Scenes.asked();
        if (!commits) {
            x.fallAndRise(1);
        }
        x.twice(0);
        x.deliver(0);
        x.deliver(0);
        for (int i = 0; i < 12; i++) {
            x.deliver(1);
        }
        x.twice(x.find(END, 0));
        x.send(END, 0);
        x.send(END, 1);
        x.send(END, CLIENT);
        return x;
    }

    /** Node 2 has PROMISED 1 to TXN 0 (to 3's asking); VOTE of SHARD 0 at 0 waits for it. */
    private static Store promisedOne() {
        Store x = Scenes.asked();
        x.deliver(0);
        x.timeout(3, 0);
        x.send(ASK, 2);
        return x;
    }

    /** VOTE "nothing, if b is below what it PROMISED": by one; where it is the same, it is ACCEPTED. */
    private static void voteBelowPromised() {
        nothing("VOTE below what it PROMISED", NothingDoneTest::promisedOne, VOTE, 2);
        Store x = promisedOne();
        x.dropAll();
        x.timeout(3, 0);
        x.send(ASK, 2);
        x.send(ASK, 3);
        x.deliver(x.find(PROMISE, 3));
        x.deliver(x.find(PROMISE, 3));
        DUE.be(4, x.ballot(2, 0, 0), "it PROMISED 4");
        DUE.be(VOTE, x.send(VOTE, 2), "VOTE of what it PROMISED");
        DUE.be(4, x.accepted(2, 0, 0, 0), "is ACCEPTED");
    }

    /** ACCEPTED "nothing, if it does not LEAD b": neither a greater one, nor a lesser one, nor none. */
    private static void acceptedNotLed() {
        Supplier<Store> leadsGreater = () -> {
            Store x = Scenes.accepting();
            x.timeout(2, 0);
            return x;
        };
        nothing("ACCEPTED of 0 to one that leads 3", leadsGreater, ACCEPTED, 2);
        Supplier<Store> leadsNone = () -> {
            Store x = acceptedOfOne();
            x.fallAndRise(3);
            return x;
        };
        DUE.be(1, acceptedOfOne().message(acceptedOfOne().find(ACCEPTED, 3), 3), "ACCEPTED of 1");
        nothing("ACCEPTED of 1 to one that leads none", leadsNone, ACCEPTED, 3);
        Supplier<Store> leadsLesser = () -> {
            Store x = acceptedOfThree();
            x.fallAndRise(2);
            return x;
        };
        DUE.be(3, acceptedOfThree().message(acceptedOfThree().find(ACCEPTED, 2), 3), "ACCEPTED of 3");
        nothing("ACCEPTED of 3 to one that leads 0 again", leadsLesser, ACCEPTED, 2);
        Store x = acceptedOfOne();
        x.send(ACCEPTED, 3);
        DUE.be(1, x.accepted(3, 0, 0, 2), "ACCEPTED of 1 to one that leads 1 is counted");
    }

    /** Node 3 leads 1, its VOTES are on their way, one ACCEPTED of SHARD 0 by 2 waits for it. */
    private static Store acceptedOfOne() {
        Store x = Scenes.takenOver();
        x.deliver(0);
        x.send(VOTE, 2);
        return x;
    }

    /** The same of node 2, which leads 3. */
    private static Store acceptedOfThree() {
        Store x = Scenes.asked();
        x.dropAll();
        x.timeout(2, 0);
        x.deliverFirst(5);
        x.send(VOTE, 4);
        return x;
    }

    /** ACCEPTED "nothing, if it .. KNOWS an end". */
    private static void acceptedOfOneThatKnows() {
        nothing("ACCEPTED to one that knows COMMITTED", Scenes::known, ACCEPTED, 2);
        Supplier<Store> knowsAborted = () -> {
            Store x = Scenes.votedNo();
            x.deliverFirst(6);
            x.drop(0);
            x.drop(0);
            x.drop(0);
            x.deliverFirst(2);
            return x;
        };
        DUE.be(4, knowsAborted.get().ballot(2, 0, 2), "it knows ABORTED");
        nothing("ACCEPTED to one that knows ABORTED", knowsAborted, ACCEPTED, 2);
    }

    /** "the sender is counted for s (once)". */
    private static void acceptedCountedOnce() {
        Supplier<Store> again = () -> {
            Store x = Scenes.voted();
            x.deliver(0);
            x.twice(5);
            x.deliver(5);
            return x;
        };
        DUE.be(1, again.get().accepted(2, 0, 0, 2), "one is counted");
        nothing("ACCEPTED by one that is counted", again, ACCEPTED, 2);
    }

    /** ASK "nothing, if b is below what it PROMISED": by one; where it is the same, it is answered. */
    private static void askBelowPromised() {
        Supplier<Store> scene = () -> {
            Store x = Scenes.asked();
            x.timeout(3, 0);
            x.timeout(4, 0);
            x.deliver(5);
            return x;
        };
        DUE.be(2, scene.get().ballot(2, 0, 0), "it PROMISED 2");
        nothing("ASK of 1 where it PROMISED 2", scene, ASK, 2);
        nothing("ASK of 1 where it leads 2", scene, ASK, 4);
        Store x = scene.get();
        int before = x.pending();
        DUE.be(2, x.message(x.pending() - 2, 3), "ASK of 2 to 4");
        DUE.be(ASK, x.deliver(x.pending() - 2), "ASK of 2 where it PROMISED 2");
        DUE.be(before, x.pending(), "is answered");
        DUE.be(1, x.node(4, 1), "with no ENTRY more");
    }

    /** PROMISE "nothing, if it does not LEAD b". */
    private static void promiseNotLed() {
        Supplier<Store> leadsGreater = () -> {
            Store x = Scenes.takenOver();
            x.timeout(3, 0);
            return x;
        };
        nothing("PROMISE of 1 to one that leads 4", leadsGreater, PROMISE, 3);
        Supplier<Store> leadsNone = () -> {
            Store x = Scenes.takenOver();
            x.fallAndRise(3);
            return x;
        };
        nothing("PROMISE of 1 to one that leads none", leadsNone, PROMISE, 3);
        Supplier<Store> leadsZero = () -> {
            Store x = Scenes.asked();
            x.dropAll();
            x.timeout(2, 0);
            x.deliverFirst(3);
            x.fallAndRise(2);
            return x;
        };
        nothing("PROMISE of 3 to one that leads 0 again", leadsZero, PROMISE, 2);
    }

    /** PROMISE "nothing, if it .. has a majority for b already", and where it knows an end by then. */
    private static void promiseBehindMajority() {
        Supplier<Store> majority = () -> {
            Store x = Scenes.takenOver();
            x.deliver(0);
            return x;
        };
        DUE.be(2, majority.get().ballot(3, 0, 3), "two are a majority of three");
        nothing("PROMISE by another behind a majority", majority, PROMISE, 3);
        Supplier<Store> knows = () -> {
            Store x = majority.get();
            for (int node = 2; node <= 4; node++) {
                x.send(VOTE, node);
                x.send(VOTE, node);
            }
            for (int i = 0; i < 6; i++) {
                x.send(ACCEPTED, 3);
            }
            return x;
        };
        DUE.be(4, knows.get().ballot(3, 0, 2), "it knows ABORTED: none told a VOTE of SHARD 1");
        nothing("PROMISE where it knows an end", knows, PROMISE, 3);
    }

    /** "the sender is counted (once)". */
    private static void promiseCountedOnce() {
        Supplier<Store> again = () -> {
            Store x = Scenes.takenOver();
            x.drop(0);
            x.drop(0);
            return x;
        };
        DUE.be(1, again.get().ballot(3, 0, 3), "one is counted");
        nothing("PROMISE by one that is counted", again, PROMISE, 3);
    }

    /** END to a SHARD "nothing, if it is DECIDED here". */
    private static void endDecided() {
        nothing("END where it DECIDED COMMITTED", () -> endedWithPrepare(true), END, 0);
        nothing("END where it DECIDED ABORTED", () -> endedWithPrepare(false), END, 0);
        Supplier<Store> lockedByNext = () -> {
            Store x = endedWithPrepare(true);
            x.begin(2);
            x.write(2, 0, 50);
            return x;
        };
        nothing("END again, while another TXN has the KEY", lockedByNext, END, 0);
    }

    /** END to THE CLIENT: "STATE becomes that, if it is ASKED". */
    private static void endToClientNotAsked() {
        Supplier<Store> again = () -> {
            Store x = Scenes.known();
            x.twice(x.find(END, CLIENT));
            x.send(END, CLIENT);
            return x;
        };
        DUE.be(3, again.get().outcome(0), "COMMITTED");
        nothing("END to the client again", again, END, CLIENT);
        Supplier<Store> abortedByClient = () -> {
            Store x = Scenes.abortedByClient();
            x.timeout(2, 0);
            for (int node = 2; node <= 4; node++) {
                x.send(ASK, node);
            }
            x.deliverFirst(3);
            x.deliverFirst(8);
            return x;
        };
        DUE.be(4, abortedByClient.get().ballot(2, 0, 2), "an acceptor knows ABORTED");
        nothing("END to the client that has aborted", abortedByClient, END, CLIENT);
    }
}
