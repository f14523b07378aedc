import java.util.function.Supplier;

/** Calls that are undoable: each saves one state, also if it changes nothing, and undo brings that state back. */
final class Saves {
    private Saves() {
    }

    /** Only with fewer than 6 saved states, and for a call that leaves the buffer. */
    static void undone(Supplier<SerialRecaps> scene, String what, Refusals.Ask call) {
        SerialRecaps x = scene.get();
        int saved = x.count(6);
        long before = x.digest();
        call.of(x);
        Checks.due(what + " saves", saved + 1, x.count(6));
        Checks.due(what + " is undone", saved, x.undo());
        Checks.due(what + " undone is as before", before, x.digest());
        Checks.due(what + " undone leaves the other saved states", trail(scene), Refusals.trail(x));
    }

    private static Object trail(Supplier<SerialRecaps> scene) {
        return Refusals.trail(scene.get());
    }
}
