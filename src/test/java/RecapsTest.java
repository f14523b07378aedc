/** Promises 21 to 25: recap, easiest, enough, readShare, digest. */
final class RecapsTest {
    private static final Class<IndexOutOfBoundsException> INDEX = IndexOutOfBoundsException.class;
    private static final Class<IllegalArgumentException> ARGUMENT = IllegalArgumentException.class;
    private static final int[] FAR = {-1, 6, 32, Integer.MAX_VALUE, Integer.MIN_VALUE};

    public static void main(String[] args) {
        recaps();
        roundsEachLineUp();
        recapsOfKnownParts();
        easiest();
        enough();
        shares();
        digestByHand();
        digestSeesShares();
        wrongly();
        Checks.end();
    }

    private static void due(SerialRecaps x, int reader, int part, int... due) {
        for (int what = 0; what <= 4; what++) {
            Checks.due("21: recap(" + reader + ", " + part + ", " + what + ")", due[what], x.recap(reader, part, what));
        }
    }

    private static void recaps() {
        SerialRecaps x = Checks.told("0w11;0w20;1w99;0w21;01w5;2");
        long before = x.digest();
        due(x, 3, 4, 4, 2 + 2 + 10 + 3, 15, 0, 22);
        due(x, 3, 0, 0, 0, 0, 0, 11);
        due(x, 3, 5, 0, 0, 0, 0, 10);
        due(x, 3, 3, 2, 4, 3, 0, 25);
        Checks.due("21: nothing is changed", before, x.digest());
        x.set(0, 3);
        due(x, 3, 4, 3, 15, 14, 1, 20);
        x.set(0, 1);
        due(x, 3, 4, 1, 3, 8, 3, 8);
        x.set(0, 0);
        due(x, 3, 4, 0, 0, 0, 4, 5);
        x.set(0, 19);
        x.mail(3, 1);
        due(x, 3, 4, 2, 13, 12, 0, 18);
        due(x, 2, 4, 4, 17, 15, 0, 22);
    }

    private static void roundsEachLineUp() {
        SerialRecaps x = Checks.told("0w1;0w7;0w8;0w99;0");
        int[] due = new int[21];
        for (int into = 1; into <= 20; into++) {
            x.set(1, into);
            for (int words : new int[] {1, 7, 8, 99}) {
                due[into] += (int) Math.ceil(words / (double) into);
            }
            Checks.due("21: words become one, " + into, due[into], x.recap(0, 4, 1));
        }
    }

    private static void recapsOfKnownParts() {
        SerialRecaps x = Checks.told("0w7;0w8;0w9");
        x.set(0, 0);
        x.mail(0, 2);
        x.set(0, 4);
        due(x, 0, 2, 2, 2, 3, 0, 11);
        x.mail(1, 2);
        due(x, 1, 1, 0, 0, 0, 0, 8);
        due(x, 1, 2, 0, 0, 0, 0, 9);
    }

    private static void easiest() {
        SerialRecaps x = Checks.told("0w30;0w1;1w5;1w4;2w5");
        Checks.due("22: fewest words", 1, x.easiest(0));
        x.mail(0, 1);
        Checks.due("22: the lowest of several", 2, x.easiest(0));
        x.mail(0, 2);
        Checks.due("22: then", 3, x.easiest(0));
        x.mail(0, 3);
        Checks.due("22: then", 4, x.easiest(0));
        x.mail(0, 4);
        Checks.due("22: what is told is not read", 0, x.easiest(0));
        x.mail(0, 0);
        Checks.due("22: none", SerialRecaps.NONE, x.easiest(0));
        x.set(0, 0);
        Checks.due("22: nothing is left out", 2, x.easiest(1));
        SerialRecaps y = Checks.told("0w99;0w1;0w1");
        y.set(0, 0);
        Checks.due("22: left out counts first", 0, y.easiest(3));
        Checks.due("22: without parts", SerialRecaps.NONE, new SerialRecaps().easiest(5));
    }

    private static void enough() {
        SerialRecaps x = Checks.told("0;0;0;1;01;2");
        Checks.due("23: enough(0)", 4, x.enough(0));
        x.set(0, 0);
        Checks.due("23: whatever the setting is", 4, x.enough(0));
        x.mail(0, 4);
        Checks.due("23: without those read", 2, x.enough(0));
        x.mail(0, 2);
        Checks.due("23: then", 1, x.enough(0));
        x.catchUp(0);
        Checks.due("23: all are read", 0, x.enough(0));
        Checks.due("23: without parts", 0, new SerialRecaps().enough(5));
        SerialRecaps y = Checks.told("0;0;0;0;0;0;0;0;0;0;0;0;0;0;0;0;0;0;0;0");
        Checks.due("23: most", 19, y.enough(5));
        y.mail(5, 19);
        Checks.due("23: told ones too", 15, y.enough(5));
    }

    private static void shares() {
        Checks.due("24: without parts", 1.0, new SerialRecaps().readShare());
        SerialRecaps x = Checks.told("0;0;0;0;0;0;0");
        Checks.due("24: nothing", 0.0, x.readShare());
        x.mail(0, 3);
        Checks.due("24: told is not read", 1 / 42.0, x.readShare());
        x.mailAll(6, 2);
        Checks.due("24: of all", 6 / 42.0, x.readShare());
        for (int reader = 0; reader < 6; reader++) {
            x.catchUp(reader);
        }
        Checks.due("24: all", 1.0, x.readShare());
    }

    private static long mix(long hash, long... values) {
        long h = hash;
        for (long v : values) {
            h = 31 * h + v;
        }
        return h;
    }

    private static void digestByHand() {
        SerialRecaps x = new SerialRecaps();
        Checks.type(x, "w~");
        long due = mix(2803, 0, 0, 0, 0, 0, 6, 0, 4, 10);
        for (int reader = 0; reader < 6; reader++) {
            due = mix(due, 0, 0, 0, 0, 0, 0, 0, -1, 0);
        }
        for (int plot = 0; plot < 6; plot++) {
            due = mix(due, 0, -1, 0, 0);
        }
        Checks.due("25: without parts", mix(due, Double.doubleToLongBits(1.0), 2, 'w', '~'), x.digest());
        x.add(1, 0, 7);
        x.mail(0, 0);
        due = mix(2803, 1, 7, 1, 0, 7, 1, 2, 4, 10, 1, 0, 7, 0, 0, 1, 0);
        due = mix(due, 2, 1, 0, 0, 1, 7, 0, 0, -1, 0, 0, 0, 0, 0, 7);
        for (int reader = 1; reader < 6; reader++) {
            due = mix(due, 0, 0, 0, 1, 0, 0, 0, 0, 0, 0, 0, 0, 0, 0, 7);
        }
        due = mix(due, 1, 0, 1, 1);
        for (int plot = 1; plot < 6; plot++) {
            due = mix(due, 0, -1, 0, 0);
        }
        Checks.due("25: with a part", mix(due, Double.doubleToLongBits(1 / 6.0), 2, 'w', '~'), x.digest());
    }

    /** Shares of all kinds go into the hash by their bits. */
    private static void digestSeesShares() {
        for (int parts = 1; parts <= 20; parts++) {
            SerialRecaps x = new SerialRecaps();
            PlainSerial y = new PlainSerial();
            for (int part = 0; part < parts; part++) {
                Checks.due("25: add", y.add(1 << part % 6, -1, 1 + part), x.add(1 << part % 6, -1, 1 + part));
            }
            for (int mails = 0; mails < 6 * parts; mails++) {
                Checks.due("25: " + mails + " of " + parts, y.digest(), x.digest());
                Checks.due("25: mail", y.mail(mails % 6, mails / 6), x.mail(mails % 6, mails / 6));
            }
            Checks.due("25: all of " + parts, y.digest(), x.digest());
        }
    }

    private static void wrongly() {
        SerialRecaps x = Checks.told("0;0");
        for (int number : FAR) {
            Checks.refused(x, INDEX, "21: recap(" + number + ", 0, 0)", () -> x.recap(number, 0, 0));
            Checks.refused(x, INDEX, "21: recap(" + number + ", 0, 5)", () -> x.recap(number, 0, 5));
            Checks.refused(x, INDEX, "21: recap(0, " + number + ", 0)", () -> x.recap(0, number, 0));
            Checks.refused(x, INDEX, "21: recap(0, " + number + ", 5)", () -> x.recap(0, number, 5));
            Checks.refused(x, INDEX, "22: easiest(" + number + ")", () -> x.easiest(number));
            Checks.refused(x, INDEX, "23: enough(" + number + ")", () -> x.enough(number));
        }
        Checks.refused(x, INDEX, "21: recap(0, 2, 0)", () -> x.recap(0, 2, 0));
        for (int what : new int[] {-1, 5, Integer.MAX_VALUE, Integer.MIN_VALUE}) {
            Checks.refused(x, ARGUMENT, "21: recap(0, 0, " + what + ")", () -> x.recap(0, 0, what));
        }
    }
}
