import java.util.ArrayList;
import java.util.List;
import java.util.function.Supplier;

/** Calls that are refused: which exception it is, and that nothing has changed by the call. */
final class Refusals {
    static final Class<IndexOutOfBoundsException> INDEX = IndexOutOfBoundsException.class;
    static final Class<IllegalArgumentException> ARGUMENT = IllegalArgumentException.class;
    static final Class<IllegalStateException> STATE = IllegalStateException.class;

    interface Ask {
        Object of(SerialRecaps x);
    }

    interface AskWith {
        Object of(SerialRecaps x, int value);
    }

    private Refusals() {
    }

    static void refused(Supplier<SerialRecaps> scene, Class<? extends RuntimeException> kind, String what, Ask call) {
        SerialRecaps x = scene.get();
        Checks.due(what, kind.getName(), Checks.outcome(() -> call.of(x)));
        unchanged(scene, what, x);
    }

    static void refusedEverywhere(Class<? extends RuntimeException> kind, String what, Ask call) {
        for (Supplier<SerialRecaps> scene : Scenes.all()) {
            refused(scene, kind, what, call);
        }
    }

    /** The first value outside on either side, and the farthest ones. */
    static int[] outside(int least, int greatest) {
        return new int[] {least - 1, greatest + 1, Integer.MIN_VALUE, Integer.MAX_VALUE};
    }

    static void refusedOutside(int least, int greatest, Class<? extends RuntimeException> kind, String what,
            AskWith call) {
        for (int value : outside(least, greatest)) {
            refusedEverywhere(kind, what + " with " + value, x -> call.of(x, value));
        }
    }

    /** In an empty serial 0 is no part either, and in a full one 20 is none. */
    static void refusedWithoutSuchPart(String what, AskWith call) {
        refusedEverywhere(INDEX, what + " with as many as there are parts", x -> call.of(x, x.count(0)));
        for (int part : new int[] {-1, 20, 32, Integer.MIN_VALUE, Integer.MAX_VALUE}) {
            refusedEverywhere(INDEX, what + " with " + part, x -> call.of(x, part));
        }
    }

    static void unchanged(Supplier<SerialRecaps> scene, String what, SerialRecaps x) {
        Checks.due(what + " leaves the state and the saved ones", trail(scene.get()), trail(x));
    }

    /** The hash of the state, and of each that undo brings back: two calls a state, and the object is done with. */
    static List<Object> trail(SerialRecaps x) {
        List<Object> trail = new ArrayList<>();
        Object left = "the first";
        for (int states = 0; states < 8; states++) {
            trail.add(left);
            trail.add(x.digest());
            left = Checks.outcome(x::undo);
        }
        return trail;
    }
}
