/** Promises 15 and 17 to 20: part, reader, plot, count, setting. */
final class LooksTest {
    private static final Class<IndexOutOfBoundsException> INDEX = IndexOutOfBoundsException.class;
    private static final Class<IllegalArgumentException> ARGUMENT = IllegalArgumentException.class;
    private static final int[] FAR = {-1, 6, 32, Integer.MAX_VALUE, Integer.MIN_VALUE};

    public static void main(String[] args) {
        parts();
        readers();
        cliffs();
        plots();
        counts();
        wrongly();
        Checks.end();
    }

    private static void parts() {
        SerialRecaps x = Checks.told("0!0w3;1;01;2;02;1");
        x.mailAll(2, 6);
        int[][] due = {{1, 0, 3, 0, 1, 0, 0}, {2, -1, 10, 0, 1, 0, 0}, {3, -1, 10, 3, 2, 57, 2},
            {4, -1, 10, 0, 1, 0, 0}, {5, -1, 10, 12, 0, 0, 4}, {2, -1, 10, 4, 0, 0, 3}};
        for (int part = 0; part < due.length; part++) {
            for (int what = 0; what <= 6; what++) {
                Checks.due("15: part(" + part + ", " + what + ")", due[part][what], x.part(part, what));
            }
        }
        SerialRecaps y = Checks.told("0;0;0;0;0;0;0;0;0;0;0;0;0;0;0;0;0;0;0;0");
        for (int part = 0; part < 20; part++) {
            Checks.due("15: all it needs", part, y.part(part, 6));
            Checks.due("15: it needs one", part == 0 ? 0 : 1 << part - 1, y.part(part, 3));
        }
    }

    private static void readers() {
        SerialRecaps x = Checks.told("0w30;0w31;0w32;1w9;0w40");
        x.set(0, 2);
        x.mail(2, 4);
        x.mail(2, 3);
        x.forget(2);
        x.set(0, 0);
        x.mail(2, 2);
        int[] due = {3, 0, 2, 0, 40 + 4 + 4 + 9 + 32, 2, 1 + 2};
        for (int what = 0; what <= 6; what++) {
            Checks.due("17: reader(2, " + what + ")", due[what], x.reader(2, what));
            Checks.due("17: reader(1, " + what + ")", what == 2 ? 5 : 0, x.reader(1, what));
        }
        x.set(0, 19);
        x.mail(1, 4);
        Checks.due("17: told", 3, x.reader(1, 1));
        Checks.due("17: unknown", 1, x.reader(1, 2));
    }

    private static void cliffs() {
        SerialRecaps x = Checks.told("01!0;1!1;0;01!1;5!5");
        Checks.due("17: none is open", 0, x.reader(0, 3));
        x.mail(0, 0);
        Checks.due("17: its own plots don't close it", 1, x.reader(0, 3));
        x.mail(0, 1);
        Checks.due("17: another plot does not close it", 3, x.reader(0, 3));
        x.mail(1, 1);
        Checks.due("17: told is open too", 3, x.reader(1, 3));
        x.mail(0, 2);
        Checks.due("17: a later one closes it", 2, x.reader(0, 3));
        x.mail(1, 3);
        Checks.due("17: closed, and open anew", 2, x.reader(1, 3));
        x.mail(1, 4);
        Checks.due("17: both", 34, x.reader(1, 3));
        int[] due = {0, 2, 0, 0, 0, 1};
        for (int plot = 0; plot < 6; plot++) {
            Checks.due("18: plot(" + plot + ", 3)", due[plot], x.plot(plot, 3));
        }
        x.forget(1);
        Checks.due("17: what is forgotten does not close it", 34, x.reader(1, 3));
        SerialRecaps y = Checks.told("0!0;0;0!0");
        y.mail(0, 0);
        y.mail(1, 1);
        y.mail(2, 2);
        Checks.due("18: the unread close nothing", 2, y.plot(0, 3));
        Checks.due("18: an earlier one closes nothing", 1, y.reader(2, 3));
    }

    private static void plots() {
        SerialRecaps x = Checks.told("01!1;1!1;15;013!3");
        int[][] due = {{2, 3, 0, 0}, {4, 3, 2, 0}, {0, -1, 0, 0}, {1, 3, 1, 6}, {0, -1, 0, 0}, {1, 2, 0, 0}};
        x.mailAll(3, 0);
        for (int plot = 0; plot < 6; plot++) {
            for (int what = 0; what <= 3; what++) {
                Checks.due("18: plot(" + plot + ", " + what + ")", due[plot][what], x.plot(plot, what));
            }
        }
        x.removeLast();
        Checks.due("18: the latest then", 2, x.plot(1, 1));
        Checks.due("18: none then", -1, x.plot(3, 1));
    }

    private static void counts() {
        SerialRecaps x = Checks.told("0w30;0w31;1w9");
        x.mailAll(1, 6);
        x.mail(0, 2);
        x.mail(3, 0);
        x.catchUp(5);
        int[] due = {3, 70, 4 + 1 + 1 + 2, 2, 4 * 34 + 9 + 30 + 39, 2, 5};
        for (int what = 0; what <= 6; what++) {
            Checks.due("19: count(" + what + ")", due[what], x.count(what));
        }
    }

    private static void wrongly() {
        SerialRecaps x = Checks.told("0;0");
        for (int number : FAR) {
            Checks.refused(x, INDEX, "15: part(" + number + ", 0)", () -> x.part(number, 0));
            Checks.refused(x, INDEX, "15: part(" + number + ", 7)", () -> x.part(number, 7));
            Checks.refused(x, INDEX, "17: reader(" + number + ", 0)", () -> x.reader(number, 0));
            Checks.refused(x, INDEX, "17: reader(" + number + ", 7)", () -> x.reader(number, 7));
            Checks.refused(x, INDEX, "18: plot(" + number + ", 0)", () -> x.plot(number, 0));
            Checks.refused(x, INDEX, "18: plot(" + number + ", 4)", () -> x.plot(number, 4));
            Checks.refused(x, INDEX, "20: setting(" + number + ")", () -> x.setting(number));
        }
        Checks.refused(x, INDEX, "15: part(2, 0)", () -> x.part(2, 0));
        Checks.refused(x, INDEX, "20: setting(2)", () -> x.setting(2));
        for (int what : new int[] {-1, 7, Integer.MAX_VALUE, Integer.MIN_VALUE}) {
            Checks.refused(x, ARGUMENT, "15: part(0, " + what + ")", () -> x.part(0, what));
            Checks.refused(x, ARGUMENT, "17: reader(0, " + what + ")", () -> x.reader(0, what));
            Checks.refused(x, ARGUMENT, "18: plot(0, " + what + ")", () -> x.plot(0, what));
            Checks.refused(x, ARGUMENT, "19: count(" + what + ")", () -> x.count(what));
        }
        Checks.refused(x, ARGUMENT, "18: plot(0, 4)", () -> x.plot(0, 4));
    }
}
