/** Promises 1 to 5: a new object, add, change, removeLast, set. */
final class PartsTest {
    private static final Class<IndexOutOfBoundsException> INDEX = IndexOutOfBoundsException.class;
    private static final Class<IllegalArgumentException> ARGUMENT = IllegalArgumentException.class;
    private static final Class<IllegalStateException> STATE = IllegalStateException.class;
    private static final int NONE = SerialRecaps.NONE;

    public static void main(String[] args) {
        newObject();
        adds();
        addsWrongly();
        changes();
        changesInFullStory();
        changesWrongly();
        removes();
        numberComesAgainUnknown();
        sets();
        setsWrongly();
        Checks.end();
    }

    private static void newObject() {
        SerialRecaps x = new SerialRecaps();
        int[] counts = {0, 0, 0, 0, 0, 6, 0};
        for (int what = 0; what < counts.length; what++) {
            Checks.due("1: new count(" + what + ")", counts[what], x.count(what));
        }
        Checks.due("1: new setting(0)", 4, x.setting(0));
        Checks.due("1: new setting(1)", 10, x.setting(1));
        Checks.due("1: new firstError()", 0, x.firstError());
        Checks.due("1: new clearBuffer()", 0, x.clearBuffer());
        Checks.due("1: new readShare()", 1.0, x.readShare());
        for (int i = 0; i < 6; i++) {
            for (int what = 0; what <= 6; what++) {
                Checks.due("1: new reader(" + i + ", " + what + ")", 0, x.reader(i, what));
            }
            for (int what = 0; what <= 3; what++) {
                Checks.due("1: new plot(" + i + ", " + what + ")", what == 1 ? NONE : 0, x.plot(i, what));
            }
            Checks.due("1: new easiest", NONE, x.easiest(i));
            Checks.due("1: new enough", 0, x.enough(i));
        }
        Checks.refused(x, STATE, "1: new undo()", x::undo);
        Checks.due("NONE", -1, NONE);
    }

    private static void adds() {
        SerialRecaps x = new SerialRecaps();
        Checks.due("2: add(1, NONE, 1)", 0, x.add(1, NONE, 1));
        Checks.due("2: add(63, 5, 99)", 1, x.add(63, 5, 99));
        Checks.due("2: add(32, 5, 50)", 2, x.add(32, 5, 50));
        Checks.due("2: add(1, 0, 7)", 3, x.add(1, 0, 7));
        int[][] due = {{1, NONE, 1, 0}, {63, 5, 99, 1}, {32, 5, 50, 2}, {1, 0, 7, 2}};
        for (int part = 0; part < due.length; part++) {
            for (int what = 0; what < 4; what++) {
                Checks.due("2: part(" + part + ", " + what + ")", due[part][what], x.part(part, what));
            }
        }
        Checks.due("2: saved states", 4, x.count(6));
        Checks.due("2: undo()", 3, x.undo());
        Checks.due("2: parts after undo", 3, x.count(0));
        for (int part = 3; part < 20; part++) {
            Checks.due("2: add", part, x.add(2, NONE, 3));
        }
        Checks.refused(x, STATE, "2: the 21st", () -> x.add(2, NONE, 3));
        Checks.refused(x, ARGUMENT, "2: the 21st, and wrong", () -> x.add(2, 0, 3));
        Checks.refused(x, ARGUMENT, "2: the 21st, without words", () -> x.add(2, 1, 0));
    }

    private static void addsWrongly() {
        SerialRecaps x = new SerialRecaps();
        int[][] wrong = {{0, NONE, 1}, {64, NONE, 1}, {-1, NONE, 1}, {Integer.MIN_VALUE, 0, 1}, {Integer.MAX_VALUE, 0, 1},
            {1, 1, 1}, {62, 0, 1}, {31, 5, 1}, {63, 6, 1}, {1, -2, 1}, {1, 32, 1}, {63, Integer.MAX_VALUE, 1},
            {1, Integer.MIN_VALUE, 1}, {1, 0, 0}, {1, 0, 100}, {1, 0, -1}, {1, NONE, Integer.MAX_VALUE}};
        for (int[] w : wrong) {
            Checks.refused(x, ARGUMENT, "2: add" + java.util.Arrays.toString(w), () -> x.add(w[0], w[1], w[2]));
        }
    }

    private static void changes() {
        SerialRecaps x = Checks.told("0w11;01!1;1;01!0");
        x.mail(2, 3);
        Checks.due("3: needs before", 6, x.part(3, 3));
        Checks.due("3: change(1, ..)", 3, x.change(1, 4, 2));
        Checks.due("3: plots", 4, x.part(1, 0));
        Checks.due("3: cliff", 2, x.part(1, 1));
        Checks.due("3: words stay", 10, x.part(1, 2));
        Checks.due("3: its needs", 0, x.part(1, 3));
        Checks.due("3: needs of a later one", 5, x.part(3, 3));
        Checks.due("3: needs of the next one", 0, x.part(2, 3));
        for (int part = 0; part < 4; part++) {
            Checks.due("3: knowledge stays", part == 3 ? 2 : 1, x.knows(2, part));
        }
        Checks.due("3: the cliff hangs at once", 5, x.reader(2, 3));
        Checks.due("3: same again", 4, x.change(1, 4, NONE));
        Checks.due("3: cliff away", NONE, x.part(1, 1));
        Checks.due("3: undo", 3, x.undo());
        Checks.due("3: cliff again", 2, x.part(1, 1));
        x.undo();
        Checks.due("3: needs again", 6, x.part(3, 3));
        Checks.due("3: change(0, ..)", 1, x.change(0, 63, 5));
        Checks.due("3: needs first", 1, x.part(1, 3));
    }

    private static void changesInFullStory() {
        SerialRecaps x = Checks.told("0;0;0;0;0;0;0;0;0;0;0;0;0;0;0;0;0;0;0;0");
        Checks.due("3: the first of 20", 1, x.change(0, 2, 1));
        Checks.due("3: the next needs none", 0, x.part(1, 3));
        Checks.due("3: the last of 20", 1, x.change(19, 3, 1));
        Checks.due("3: the last needs the first too", (1 << 18) + 1, x.part(19, 3));
    }

    private static void changesWrongly() {
        SerialRecaps x = Checks.told("0;1");
        for (int part : new int[] {-1, 2, 20, Integer.MAX_VALUE, Integer.MIN_VALUE}) {
            Checks.refused(x, INDEX, "3: change(" + part + ", ..)", () -> x.change(part, 1, NONE));
            Checks.refused(x, INDEX, "3: change(" + part + ", 0, 7)", () -> x.change(part, 0, 7));
        }
        int[][] wrong = {{0, NONE}, {64, NONE}, {-1, NONE}, {1, 1}, {1, -2}, {63, 6}, {1, 32}};
        for (int[] w : wrong) {
            Checks.refused(x, ARGUMENT, "3: change(1, " + w[0] + ", " + w[1] + ")", () -> x.change(1, w[0], w[1]));
        }
    }

    private static void removes() {
        SerialRecaps x = Checks.told("0;0!0;0");
        x.mailAll(2, 9);
        x.mail(1, 1);
        Checks.due("4: removeLast()", 4, x.removeLast());
        Checks.due("4: parts", 2, x.count(0));
        Checks.due("4: words so far stay", 58, x.count(4));
        Checks.due("4: reader's words stay", 22, x.reader(1, 4));
        Checks.due("4: mails so far stay", 5, x.count(2));
        Checks.due("4: it hangs again", 4, x.plot(0, 3));
        Checks.due("4: read", 1, x.reader(1, 0));
        Checks.due("4: told", 2, x.reader(2, 1));
        Checks.due("4: removeLast()", 1, x.removeLast());
        Checks.due("4: removeLast()", 0, x.removeLast());
        Checks.due("4: parts", 0, x.count(0));
        Checks.refused(x, STATE, "4: none left", x::removeLast);
        Checks.due("4: undo", 5, x.undo());
        x.undo();
        x.undo();
        Checks.due("4: read again", 54, x.part(2, 5));
        Checks.refused(new SerialRecaps(), STATE, "4: none", () -> new SerialRecaps().removeLast());
    }

    private static void numberComesAgainUnknown() {
        SerialRecaps x = Checks.told("0;01;1");
        x.mail(0, 2);
        x.mail(1, 1);
        x.removeLast();
        x.removeLast();
        x.add(1, NONE, 4);
        x.add(1, NONE, 4);
        for (int part = 1; part < 3; part++) {
            Checks.due("4: reader 0 of the new", 0, x.knows(0, part));
            Checks.due("4: reader 1 of the new", 0, x.knows(1, part));
            Checks.due("4: nobody has read the new", 0, x.part(part, 5));
        }
    }

    private static void sets() {
        SerialRecaps x = new SerialRecaps();
        Checks.due("5: set(0, 0)", 4, x.set(0, 0));
        Checks.due("5: set(0, 19)", 0, x.set(0, 19));
        Checks.due("5: set(1, 1)", 10, x.set(1, 1));
        Checks.due("5: set(1, 20)", 1, x.set(1, 20));
        Checks.due("5: set(1, 20)", 20, x.set(1, 20));
        Checks.due("20: setting(0)", 19, x.setting(0));
        Checks.due("20: setting(1)", 20, x.setting(1));
        Checks.due("5: saved", 5, x.count(6));
        x.undo();
        x.undo();
        Checks.due("20: setting(1)", 1, x.setting(1));
        Checks.due("20: setting(0)", 19, x.setting(0));
    }

    private static void setsWrongly() {
        SerialRecaps x = new SerialRecaps();
        for (int setting : new int[] {-1, 2, Integer.MAX_VALUE, Integer.MIN_VALUE}) {
            Checks.refused(x, INDEX, "5: set(" + setting + ", 1)", () -> x.set(setting, 1));
            Checks.refused(x, INDEX, "5: set(" + setting + ", -1)", () -> x.set(setting, -1));
            Checks.refused(x, INDEX, "20: setting(" + setting + ")", () -> x.setting(setting));
        }
        int[][] wrong = {{0, -1}, {0, 20}, {0, Integer.MAX_VALUE}, {1, 0}, {1, 21}, {1, -1}, {1, Integer.MIN_VALUE}};
        for (int[] w : wrong) {
            Checks.refused(x, ARGUMENT, "5: set(" + w[0] + ", " + w[1] + ")", () -> x.set(w[0], w[1]));
        }
    }
}
