/** Promises 10 to 14: append, clearBuffer, firstError, addAll, undo. */
final class TextsTest {
    private static final Class<IllegalArgumentException> ARGUMENT = IllegalArgumentException.class;
    private static final Class<IllegalStateException> STATE = IllegalStateException.class;

    public static void main(String[] args) {
        appends();
        clears();
        findsErrors();
        refusesIncomplete();
        addsAll();
        addsUpToTwenty();
        undoes();
        dropsTheOldest();
        Checks.end();
    }

    private static void appends() {
        SerialRecaps x = new SerialRecaps();
        for (int code : new int[] {32, 127, 0, -1, 48 + 256, Integer.MAX_VALUE, Integer.MIN_VALUE}) {
            Checks.refused(x, ARGUMENT, "10: append(" + code + ")", () -> x.append(code));
        }
        for (int i = 1; i <= 60; i++) {
            Checks.due("10: append", i, x.append(i % 2 == 0 ? 33 : 126));
        }
        Checks.refused(x, STATE, "10: the 61st", () -> x.append(48));
        Checks.refused(x, ARGUMENT, "10: the 61st, and wrong", () -> x.append(32));
        Checks.due("10: nothing is saved", 0, x.count(6));
        Checks.due("12: the first is wrong", 0, x.firstError());
        Checks.due("11: clearBuffer()", 60, x.clearBuffer());
        Checks.due("10: append", 1, x.append(48));
    }

    private static void clears() {
        SerialRecaps x = new SerialRecaps();
        Checks.due("11: empty", 0, x.clearBuffer());
        Checks.type(x, "0;a");
        Checks.due("11: three", 3, x.clearBuffer());
        Checks.due("11: then empty", 0, x.clearBuffer());
        Checks.due("11: no error is left", 0, x.firstError());
        Checks.due("11: nothing is saved", 0, x.count(6));
    }

    private static void findsErrors() {
        String[] right = {"", "0", "5", "012345", "0!0", "024!2w9", "5w1", "5w99", "5w10", "0;", "0!", "0w", "0w1;",
            "0;0;0", "0!0;1w2;5", "0;0;0;0;0;0;0;0;0;0;0;0;0;0;0;0;0;0;0;0;0;0"};
        for (String text : right) {
            error(text, text.length());
        }
        error("6", 0);
        error("!0", 0);
        error(";", 0);
        error("w", 0);
        error("/", 0);
        error(":", 0);
        error("00", 1);
        error("10", 1);
        error("021", 2);
        error("56", 1);
        error("0!1", 2);
        error("02!1", 3);
        error("0!6", 2);
        error("0!!", 2);
        error("0!;", 2);
        error("0!w", 2);
        error("0!01", 3);
        error("0!0!0", 3);
        error("0w0", 2);
        error("0w/", 2);
        error("0w:", 2);
        error("0w;", 2);
        error("0w1!", 3);
        error("0w1w", 3);
        error("0w1/", 3);
        error("0w1:", 3);
        error("0w123", 4);
        error("0w12w", 4);
        error("0w12!0", 4);
        error("0W1", 1);
        error("0;;0", 2);
        error("0;w", 2);
        error("0;!", 2);
        error("01w5;1!0", 7);
        error("0a0a", 1);
        error("0,0", 1);
    }

    private static void error(String text, int due) {
        SerialRecaps x = new SerialRecaps();
        Checks.type(x, text);
        Checks.due("12: firstError of " + text, due, x.firstError());
        Checks.due("12: again", due, x.firstError());
        Checks.due("12: the buffer stays", text.length(), x.clearBuffer());
    }

    private static void refusesIncomplete() {
        for (String text : new String[] {"", "0;", "0!", "0w", "0;1!", "0;1w", "00", "0;6", "0;0!0;", "0w100", ";0"}) {
            SerialRecaps x = new SerialRecaps();
            Checks.type(x, text);
            Checks.refused(x, ARGUMENT, "13: addAll of " + text, x::addAll);
            Checks.due("13: the buffer stays", text.length(), x.clearBuffer());
        }
    }

    private static void addsAll() {
        SerialRecaps x = new SerialRecaps();
        x.add(1, 0, 5);
        Checks.type(x, "0!0w9;135;24!4;5w99;012345!5");
        Checks.due("13: addAll()", 6, x.addAll());
        int[][] due = {{1, 0, 5}, {1, 0, 9}, {42, -1, 10}, {20, 4, 10}, {32, -1, 99}, {63, 5, 10}};
        for (int part = 0; part < due.length; part++) {
            for (int what = 0; what < 3; what++) {
                Checks.due("13: part(" + part + ", " + what + ")", due[part][what], x.part(part, what));
            }
        }
        Checks.due("13: needs", 16 + 8 + 4 + 2, x.part(5, 3));
        Checks.due("13: the buffer is clear", 0, x.clearBuffer());
        Checks.due("13: one saved state", 2, x.count(6));
        Checks.type(x, "5w");
        Checks.due("13: one undo", 1, x.undo());
        Checks.due("13: parts", 1, x.count(0));
        Checks.due("14: the buffer stays", 2, x.clearBuffer());
    }

    private static void addsUpToTwenty() {
        SerialRecaps x = new SerialRecaps();
        Checks.type(x, "0;0;0;0;0;0;0;0;0;0;0;0;0;0;0;0;0;0;0");
        Checks.due("13: 19", 19, x.addAll());
        Checks.type(x, "1;2");
        Checks.refused(x, STATE, "13: 21", x::addAll);
        Checks.type(x, ";");
        Checks.refused(x, ARGUMENT, "13: 21, not complete", x::addAll);
        x.clearBuffer();
        Checks.type(x, "1");
        Checks.due("13: 20", 20, x.addAll());
        Checks.type(x, "1");
        Checks.refused(x, STATE, "13: one more", x::addAll);
        Checks.due("13: the buffer stays", 1, x.clearBuffer());
        SerialRecaps y = new SerialRecaps();
        Checks.type(y, "0;0;0;0;0;0;0;0;0;0;0;0;0;0;0;0;0;0;0;0;0;0;0;0;0;0;0;0;0;0");
        Checks.refused(y, STATE, "13: 30", y::addAll);
    }

    private static void undoes() {
        SerialRecaps x = new SerialRecaps();
        long[] before = new long[6];
        Runnable[] calls = {() -> Checks.due("addAll", 3, typed(x).addAll()), () -> x.set(0, 1), () -> x.mail(0, 2),
            () -> x.mailAll(1, 5), () -> x.change(0, 8, 3), () -> x.removeLast()};
        for (int i = 0; i < 6; i++) {
            before[i] = x.digest();
            calls[i].run();
            Checks.due("14: saved", i + 1, x.count(6));
        }
        for (int i = 5; i >= 0; i--) {
            Checks.due("14: undo()", i, x.undo());
            Checks.due("14: as before", before[i], x.digest());
        }
        Checks.refused(x, STATE, "14: none left", x::undo);
    }

    private static SerialRecaps typed(SerialRecaps x) {
        Checks.type(x, "0!0;1;01w50");
        return x;
    }

    private static void dropsTheOldest() {
        SerialRecaps x = new SerialRecaps();
        for (int value = 0; value < 17; value++) {
            x.set(0, value);
            Checks.due("14: saved", Math.min(6, value + 1), x.count(6));
        }
        for (int value = 15; value > 12; value--) {
            x.undo();
            Checks.due("14: the setting", value, x.setting(0));
        }
        x.set(0, 19);
        for (int left = 3; left >= 0; left--) {
            Checks.due("14: undo()", left, x.undo());
        }
        Checks.due("14: the oldest that is left", 10, x.setting(0));
        Checks.refused(x, STATE, "14: dropped", x::undo);
    }
}
