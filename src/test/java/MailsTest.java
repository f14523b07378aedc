/** Promises 6 to 9 and 16: mail, mailAll, forget, catchUp, knows. */
final class MailsTest {
    private static final Class<IndexOutOfBoundsException> INDEX = IndexOutOfBoundsException.class;
    private static final Class<IllegalArgumentException> ARGUMENT = IllegalArgumentException.class;
    private static final Class<IllegalStateException> STATE = IllegalStateException.class;
    private static final int[] FAR = {-1, 6, 32, Integer.MAX_VALUE, Integer.MIN_VALUE};

    public static void main(String[] args) {
        mails();
        recapStopsAtKnown();
        mailsWhatWasTold();
        mailsWrongly();
        mailsAll();
        mailsAllWrongly();
        forgets();
        catchesUp();
        knowsWrongly();
        Checks.end();
    }

    private static void knowledge(SerialRecaps x, String what, int reader, String due) {
        for (int part = 0; part < due.length(); part++) {
            Checks.due(what + ": knows(" + reader + ", " + part + ")", due.charAt(part) - '0', x.knows(reader, part));
        }
    }

    private static void mails() {
        SerialRecaps x = Checks.told("0w11;0w20;1w99;0w21;01w5;2");
        x.set(0, 3);
        Checks.due("6: mail(3, 4)", 3, x.mail(3, 4));
        knowledge(x, "6: the greatest are told", 3, "011120");
        knowledge(x, "6: another reader", 2, "000000");
        Checks.due("6: words", 5 + 2 + 10 + 3, x.reader(3, 4));
        Checks.due("6: lines", 3, x.reader(3, 5));
        Checks.due("6: left out", 1, x.reader(3, 6));
        Checks.due("6: reached", 1, x.count(2));
        Checks.due("6: lost", 0, x.count(3));
        Checks.due("6: saved", 3, x.count(6));
        Checks.due("6: mail(3, 5)", 0, x.mail(3, 5));
        Checks.due("6: words", 30, x.reader(3, 4));
        Checks.due("6: words by all", 30, x.count(4));
        x.undo();
        x.undo();
        knowledge(x, "6: undone", 3, "000000");
        Checks.due("6: words undone", 0, x.reader(3, 4));
        Checks.due("6: lines undone", 0, x.reader(3, 5));
        Checks.due("6: left out undone", 0, x.reader(3, 6));
        Checks.due("6: reached undone", 0, x.count(2));
    }

    private static void recapStopsAtKnown() {
        SerialRecaps x = Checks.told("0;0;0;0;0");
        x.mail(0, 2);
        x.forget(0);
        Checks.due("6: nothing is missed beyond what is read", 1, x.mail(0, 4));
        knowledge(x, "6: beyond", 0, "00212");
        SerialRecaps y = Checks.told("0;0;01;0;1");
        y.set(0, 1);
        y.mail(1, 3);
        knowledge(y, "6: left out", 1, "00120");
        Checks.due("6: nothing is missed beyond what is told", 0, y.mail(1, 4));
        Checks.due("6: left out once", 2, y.reader(1, 6));
        Checks.due("6: what it needs itself is missed", 1, y.mail(1, 2));
        knowledge(y, "6: then", 1, "01222");
        Checks.due("6: left out each time", 3, y.reader(1, 6));
    }

    private static void mailsWhatWasTold() {
        SerialRecaps x = Checks.told("0;0");
        x.mail(5, 1);
        Checks.due("6: what was told", 0, x.mail(5, 0));
        knowledge(x, "6: what was told is read", 5, "22");
        Checks.due("6: none is told", 0, x.reader(5, 1));
        Checks.due("6: two are read", 2, x.reader(5, 0));
        Checks.due("6: nothing to forget", 0, x.forget(5));
        x.removeLast();
        Checks.due("6: read share", 1.0 / 6, x.readShare());
    }

    private static void mailsWrongly() {
        SerialRecaps x = Checks.told("0;0");
        x.mail(0, 0);
        for (int reader : FAR) {
            Checks.refused(x, INDEX, "6: mail(" + reader + ", 0)", () -> x.mail(reader, 0));
            Checks.refused(x, INDEX, "8: forget(" + reader + ")", () -> x.forget(reader));
            Checks.refused(x, INDEX, "9: catchUp(" + reader + ")", () -> x.catchUp(reader));
        }
        for (int part : new int[] {-1, 2, 20, 32, Integer.MAX_VALUE, Integer.MIN_VALUE}) {
            Checks.refused(x, INDEX, "6: mail(0, " + part + ")", () -> x.mail(0, part));
        }
        Checks.refused(x, STATE, "6: mail(0, 0)", () -> x.mail(0, 0));
        Checks.refused(x, INDEX, "6: mail(6, 0)", () -> x.mail(6, 0));
    }

    private static void mailsAll() {
        SerialRecaps x = Checks.told("0w10;0w20;1w30");
        x.mail(1, 1);
        x.mail(2, 0);
        Checks.due("7: mailAll(1, ..)", 3, x.mailAll(1, 1 + 2 + 8));
        knowledge(x, "7: lost", 0, "000");
        knowledge(x, "7: had read", 1, "120");
        knowledge(x, "7: had read the first", 2, "220");
        knowledge(x, "7: lost", 3, "000");
        knowledge(x, "7: reached", 4, "120");
        knowledge(x, "7: reached", 5, "120");
        Checks.due("7: reached", 5, x.count(2));
        Checks.due("7: lost, but not where nothing was sent", 2, x.count(3));
        Checks.due("7: words", 21 + 10 + 20 + 21 + 21, x.count(4));
        Checks.due("7: saved", 4, x.count(6));
        Checks.due("7: one undo", 3, x.undo());
        Checks.due("7: reached undone", 2, x.count(2));
        Checks.due("7: lost undone", 0, x.count(3));
        knowledge(x, "7: undone", 4, "000");
        Checks.due("7: all lost", 0, x.mailAll(2, 63));
        Checks.due("7: all lost", 6, x.count(3));
        Checks.due("7: all reached", 6, x.mailAll(2, 0));
        Checks.due("7: all had read", 0, x.mailAll(2, 63));
        Checks.due("7: none is lost then", 6, x.count(3));
        Checks.due("7: saved all the same", 6, x.count(6));
    }

    private static void mailsAllWrongly() {
        SerialRecaps x = Checks.told("0;0");
        for (int part : new int[] {-1, 2, 32, Integer.MAX_VALUE, Integer.MIN_VALUE}) {
            Checks.refused(x, INDEX, "7: mailAll(" + part + ", 0)", () -> x.mailAll(part, 0));
            Checks.refused(x, INDEX, "7: mailAll(" + part + ", 64)", () -> x.mailAll(part, 64));
        }
        for (int lost : new int[] {-1, 64, Integer.MAX_VALUE, Integer.MIN_VALUE}) {
            Checks.refused(x, ARGUMENT, "7: mailAll(0, " + lost + ")", () -> x.mailAll(0, lost));
        }
    }

    private static void forgets() {
        SerialRecaps x = Checks.told("0;0;0;1");
        x.mail(0, 2);
        x.mail(1, 2);
        Checks.due("8: forget(0)", 2, x.forget(0));
        knowledge(x, "8: what is read stays", 0, "0020");
        knowledge(x, "8: another reader", 1, "1120");
        Checks.due("8: the words so far stay", 12, x.reader(0, 4));
        Checks.due("8: the lines so far stay", 2, x.reader(0, 5));
        Checks.due("8: nothing to forget", 0, x.forget(0));
        Checks.due("8: saved all the same", 5, x.count(6));
        x.undo();
        Checks.due("8: undo", 3, x.undo());
        knowledge(x, "8: undone", 0, "1120");
    }

    private static void catchesUp() {
        SerialRecaps x = Checks.told("0w11;0w20;1w99;01w5");
        x.mail(4, 1);
        Checks.due("9: catchUp(4)", 11 + 99 + 5, x.catchUp(4));
        knowledge(x, "9: all", 4, "2222");
        Checks.due("9: mails", 4, x.count(2));
        Checks.due("9: words", 22 + 115, x.reader(4, 4));
        Checks.due("9: lines", 1, x.reader(4, 5));
        Checks.due("9: another reader", 0, x.reader(3, 4));
        Checks.due("9: nothing to read", 0, x.catchUp(4));
        Checks.due("9: saved", 4, x.count(6));
        x.undo();
        Checks.due("9: one undo", 2, x.undo());
        knowledge(x, "9: undone", 4, "1200");
        Checks.due("9: without parts", 0, new SerialRecaps().catchUp(0));
    }

    private static void knowsWrongly() {
        SerialRecaps x = Checks.told("0;0");
        for (int reader : FAR) {
            Checks.refused(x, INDEX, "16: knows(" + reader + ", 0)", () -> x.knows(reader, 0));
        }
        for (int part : new int[] {-1, 2, 32, Integer.MAX_VALUE, Integer.MIN_VALUE}) {
            Checks.refused(x, INDEX, "16: knows(0, " + part + ")", () -> x.knows(0, part));
        }
        Checks.refused(new SerialRecaps(), INDEX, "16: without parts", () -> new SerialRecaps().knows(0, 0));
    }
}
