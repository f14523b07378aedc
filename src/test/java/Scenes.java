import java.util.List;
import java.util.function.Supplier;

/** Serials to begin a test with, each made anew. */
final class Scenes {
    /** 60 characters, without a syntax error, but not complete. */
    static final String SIXTY = "012345!5w99;".repeat(5);

    private Scenes() {
    }

    static SerialRecaps empty() {
        return new SerialRecaps();
    }

    /** Parts of plot 0 alone, each with 10 words. */
    static SerialRecaps parts(int count) {
        SerialRecaps x = new SerialRecaps();
        for (int part = 0; part < count; part++) {
            x.add(1, SerialRecaps.NONE, 10);
        }
        return x;
    }

    /** One part, which all have read. */
    static SerialRecaps allRead() {
        SerialRecaps x = parts(1);
        x.mailAll(0, 0);
        return x;
    }

    /** 5 parts that readers know in all ways, 3 saved states, some characters. */
    static SerialRecaps calm() {
        SerialRecaps x = told("0!0w11;01w20;1!1w99;0w21;012!2w5");
        x.mail(3, 4);
        x.mailAll(1, 9);
        type(x, "0!0;1w");
        return x;
    }

    /** As calm, but with 6 saved states; reader 2 has read all parts. */
    static SerialRecaps busy() {
        SerialRecaps x = calm();
        x.set(0, 2);
        x.forget(4);
        x.catchUp(2);
        x.change(0, 3, 1);
        x.mail(0, 3);
        return x;
    }

    /** 20 parts, 60 characters, 6 saved states; reader 2 has read all parts. */
    static SerialRecaps full() {
        SerialRecaps x = parts(20);
        x.set(1, 3);
        x.mail(1, 7);
        x.mailAll(19, 5);
        x.catchUp(2);
        type(x, SIXTY);
        return x;
    }

    static List<Supplier<SerialRecaps>> all() {
        return List.of(Scenes::empty, Scenes::busy, Scenes::full);
    }

    static SerialRecaps typed(String text) {
        SerialRecaps x = new SerialRecaps();
        type(x, text);
        return x;
    }

    /** The parts of a text; what made them is saved as one state. */
    static SerialRecaps told(String text) {
        SerialRecaps x = typed(text);
        x.addAll();
        return x;
    }

    static void type(SerialRecaps x, String text) {
        for (int i = 0; i < text.length(); i++) {
            x.append(text.charAt(i));
        }
    }
}
