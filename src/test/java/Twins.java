import java.util.List;
import java.util.function.Consumer;
import java.util.function.Supplier;
import java.util.function.UnaryOperator;

/**
 * Compares two stores that should stand alike: all that is told of them at once, and after each of some ways to go on,
 * since what is not told (which votes a leader kept, which new values there are) shows itself only there.
 */
final class Twins {
    private static final List<Consumer<Store>> WAYS_ON = List.of(
        x -> { },
        x -> x.play(7, 400),
        x -> {
            takeOver(x);
            x.play(11, 400);
        },
        x -> {
            forAllNodes(x, node -> x.crash(node));
            takeOver(x);
            x.play(13, 400);
        });

    private final Due due;

    Twins(Due due) {
        this.due = due;
    }

    private static void forAllNodes(Store x, Consumer<Integer> step) {
        int nodes = x.count(5) + x.count(6);
        for (int node = 0; node < nodes; node++) {
            step.accept(node);
        }
    }

    private static void takeOver(Store x) {
        forAllNodes(x, node -> x.restart(node));
        forAllNodes(x, node -> x.timeout(node, 0));
    }

    /** A step on a store, and what it answers. */
    interface Call {
        long on(Store x);
    }

    /** The call answers that, and what is told then is as without it, but for the change told. */
    void changesOnly(String what, Supplier<Store> scene, long want, Call call, UnaryOperator<Picture> change) {
        standAlike(what, scene, x -> { }, x -> due.be(want, call.on(x), what), change);
    }

    /** The call answers that, and changes nothing. */
    void changesNothing(String what, Supplier<Store> scene, long want, Call call) {
        changesOnly(what, scene, want, call, p -> p);
    }

    /** MESSAGE i, delivered, is answered so, and that it was delivered is all: it might as well have been dropped. */
    void onlyTakenOut(String what, Supplier<Store> scene, int want, int kind, int to) {
        standAlike(what, scene, x -> due.hold(x.drop(x.find(kind, to)) == kind, what + ": there is one"),
            x -> due.be(want, x.send(kind, to), what), p -> p.oneMore("count(2)"));
    }

    private void standAlike(String what, Supplier<Store> scene, Consumer<Store> one, Consumer<Store> other,
            UnaryOperator<Picture> change) {
        for (int way = 0; way < WAYS_ON.size(); way++) {
            Store x = scene.get();
            Store y = scene.get();
            one.accept(x);
            other.accept(y);
            WAYS_ON.get(way).accept(x);
            WAYS_ON.get(way).accept(y);
            List<String> unlike = change.apply(new Picture(x)).unlike(new Picture(y));
            due.hold(unlike.isEmpty(), what + ", going on " + way + ": " + unlike);
        }
    }
}
