/** Promises 6 to 9: mail, mailAll, forget, catchUp. */
final class MailsTest {
    public static void main(String[] args) {
        Sentences.run(MailsTest.class);
    }

    private static void knowledge(SerialRecaps x, String what, int reader, String due) {
        for (int part = 0; part < due.length(); part++) {
            Checks.due(what + ": knows(" + reader + ", " + part + ")", due.charAt(part) - '0', x.knows(reader, part));
        }
    }

    // ---- 6: mail

    @Holds(in = "Promise 6", sentence = "Mails a part to a reader.")
    static void mailTellsTheGreatestAndCounts() {
        SerialRecaps x = Scenes.told("0w11;0w20;1w99;0w21;01w5;2");
        x.set(0, 3);
        Checks.due("mail(3, 4)", 3, x.mail(3, 4));
        knowledge(x, "the greatest are told", 3, "011120");
        knowledge(x, "another reader", 2, "000000");
        Checks.due("words", 5 + 2 + 10 + 3, x.reader(3, 4));
        Checks.due("lines", 3, x.reader(3, 5));
        Checks.due("left out", 1, x.reader(3, 6));
        Checks.due("reached", 1, x.count(2));
        Checks.due("lost", 0, x.count(3));
        Checks.due("mail(3, 5)", 0, x.mail(3, 5));
        Checks.due("words", 30, x.reader(3, 4));
        Checks.due("words by all", 30, x.count(4));
    }

    @Holds(in = "Promise 6", sentence = "Mails a part to a reader.")
    static void mailMakesWhatWasToldRead() {
        SerialRecaps x = Scenes.told("0;0");
        x.mail(5, 1);
        Checks.due("lines of what was told", 0, x.mail(5, 0));
        knowledge(x, "what was told is read", 5, "22");
        Checks.due("none is told", 0, x.reader(5, 1));
        Checks.due("two are read", 2, x.reader(5, 0));
        Checks.due("nothing to forget", 0, x.forget(5));
        x.removeLast();
        Checks.due("read share", 1.0 / 6, x.readShare());
    }

    @Holds(in = "Promise 6", sentence = "Undoable.")
    static void mailIsUndone() {
        Saves.undone(Scenes::calm, "mail of the first part", x -> x.mail(3, 0));
        Saves.undone(Scenes::calm, "mail of the last part", x -> x.mail(0, 4));
        SerialRecaps x = Scenes.parts(6);
        x.mail(3, 5);
        x.undo();
        knowledge(x, "undone", 3, "000000");
        for (int what = 4; what <= 6; what++) {
            Checks.due("reader(3, " + what + ")", 0, x.reader(3, what));
        }
        Checks.due("reached", 0, x.count(2));
    }

    @Holds(in = "Promise 6", sentence = "`reader`: 0 to 5")
    static void mailReachesReaders0And5() {
        SerialRecaps x = Scenes.parts(2);
        x.mail(0, 0);
        x.mail(5, 1);
        knowledge(x, "the first reader", 0, "20");
        knowledge(x, "the last reader", 5, "12");
        for (int reader = 1; reader < 5; reader++) {
            knowledge(x, "no reader of these", reader, "00");
        }
    }

    @Holds(in = "Promise 6", sentence = "Throws `IndexOutOfBoundsException` if there is no such reader")
    static void mailRefusesReadersMinus1And6() {
        Refusals.refusedOutside(0, 5, Refusals.INDEX, "mail to", (x, reader) -> x.mail(reader, 0));
    }

    @Holds(in = "Promise 6", sentence = "`part`: its number")
    static void mailTakesTheFirstAndTheLastOf20Parts() {
        SerialRecaps x = Scenes.parts(20);
        x.mail(1, 0);
        x.mail(1, 19);
        Checks.due("knows(1, 0)", 2, x.knows(1, 0));
        Checks.due("knows(1, 19)", 2, x.knows(1, 19));
        Checks.due("read", 2, x.reader(1, 0));
    }

    @Holds(in = "Promise 6", sentence = "or part")
    static void mailRefusesPartsThatAreNotThere() {
        Refusals.refusedWithoutSuchPart("mail", (x, part) -> x.mail(1, part));
    }

    @Holds(in = "Promise 6", sentence = "Returns how many lines its recap has.")
    static void mailReturns0To19Lines() {
        for (int lines = 0; lines <= 19; lines++) {
            SerialRecaps x = Scenes.parts(20);
            x.set(0, lines);
            Checks.due("lines of the last with setting 0 at " + lines, lines, x.mail(4, 19));
        }
        for (int part = 0; part < 20; part++) {
            SerialRecaps x = Scenes.parts(20);
            x.set(0, 19);
            Checks.due("all lines of part " + part, part, x.mail(4, part));
        }
    }

    @Holds(in = "Promise 6", sentence = "Throws `IllegalStateException` if the reader has read it")
    static void mailRefusesWhatIsRead() {
        Refusals.refused(Scenes::busy, Refusals.STATE, "the first part", x -> x.mail(2, 0));
        Refusals.refused(Scenes::full, Refusals.STATE, "the last part", x -> x.mail(2, 19));
        Refusals.refused(() -> caughtUp(1), Refusals.STATE, "the only part", x -> x.mail(5, 0));
    }

    private static SerialRecaps caughtUp(int parts) {
        SerialRecaps x = Scenes.parts(parts);
        x.catchUp(5);
        return x;
    }

    @Holds(in = "Promise 6", sentence = "Throws `IllegalStateException` if the reader has read it")
    static void mailTakesWhatIsToldOrReadByOthers() {
        SerialRecaps x = Scenes.parts(3);
        x.mail(1, 2);
        Checks.due("what is told", 0, x.mail(1, 0));
        Checks.due("what another has read", 2, x.mail(0, 2));
    }

    // ---- 7: mailAll

    @Holds(in = "Promise 7", sentence = "Mails a part to all readers who have not read it.")
    static void mailAllPassesByThoseWhoHaveRead() {
        SerialRecaps x = Scenes.told("0w10;0w20;1w30");
        x.mail(1, 1);
        x.mail(2, 0);
        Checks.due("mailAll(1, ..)", 3, x.mailAll(1, 1 + 2 + 8));
        knowledge(x, "lost", 0, "000");
        knowledge(x, "had read", 1, "120");
        knowledge(x, "had read the first", 2, "220");
        knowledge(x, "lost", 3, "000");
        knowledge(x, "reached", 4, "120");
        knowledge(x, "reached", 5, "120");
        Checks.due("reached", 5, x.count(2));
        Checks.due("lost, but not where nothing was sent", 2, x.count(3));
        Checks.due("words", 21 + 10 + 20 + 21 + 21, x.count(4));
    }

    @Holds(in = "Promise 7", sentence = "Mails a part to all readers who have not read it.")
    static void mailAllGoesToNobodyIfAllHaveRead() {
        SerialRecaps x = Scenes.parts(1);
        Checks.due("all reached", 6, x.mailAll(0, 0));
        Checks.due("all had read", 0, x.mailAll(0, 0));
        Checks.due("all had read, and lost", 0, x.mailAll(0, 63));
        Checks.due("reached", 6, x.count(2));
        Checks.due("lost", 0, x.count(3));
    }

    @Holds(in = "Promise 7", sentence = "Undoable, as one call.")
    static void mailAllIsUndoneAsOneCall() {
        Saves.undone(Scenes::calm, "mailAll to six", x -> x.mailAll(2, 0));
        Saves.undone(Scenes::calm, "mailAll, all lost", x -> x.mailAll(2, 63));
        Saves.undone(Scenes::allRead, "mailAll to nobody", x -> x.mailAll(0, 0));
    }

    @Holds(in = "Promise 7", sentence = "`part`: its number")
    static void mailAllTakesTheFirstAndTheLastOf20Parts() {
        SerialRecaps x = Scenes.parts(20);
        Checks.due("the first", 6, x.mailAll(0, 0));
        Checks.due("the last", 6, x.mailAll(19, 0));
        Checks.due("who has read the first", 63, x.part(0, 5));
        Checks.due("who has read the last", 63, x.part(19, 5));
    }

    @Holds(in = "Promise 7", sentence = "Throws `IndexOutOfBoundsException` if there is no such part")
    static void mailAllRefusesPartsThatAreNotThere() {
        Refusals.refusedWithoutSuchPart("mailAll", (x, part) -> x.mailAll(part, 0));
    }

    @Holds(in = "Promise 7", sentence = "`lost`: readers whose mails are lost, as a mask, 0 to 63")
    static void mailAllTakesAllMasks0To63() {
        for (int lost = 0; lost <= 63; lost++) {
            SerialRecaps x = Scenes.parts(1);
            int reached = 6 - Integer.bitCount(lost);
            Checks.due("mailAll(0, " + lost + ")", reached, x.mailAll(0, lost));
            Checks.due("who has read it", 63 - lost, x.part(0, 5));
            Checks.due("reached", reached, x.count(2));
            Checks.due("lost", 6 - reached, x.count(3));
        }
    }

    @Holds(in = "Promise 7", sentence = "Throws `IllegalArgumentException` if lost is out of range")
    static void mailAllRefusesLostMinus1And64() {
        for (int lost : Refusals.outside(0, 63)) {
            Refusals.refused(Scenes::busy, Refusals.ARGUMENT, "mailAll(0, " + lost + ")", x -> x.mailAll(0, lost));
            Refusals.refused(Scenes::full, Refusals.ARGUMENT, "mailAll(19, " + lost + ")", x -> x.mailAll(19, lost));
            Refusals.refused(Scenes::allRead, Refusals.ARGUMENT, "mailAll(0, " + lost + ") to nobody",
                x -> x.mailAll(0, lost));
        }
    }

    @Holds(in = "Promise 7", sentence = "Returns how many readers it reaches.")
    static void mailAllReturns0And6() {
        SerialRecaps x = Scenes.parts(1);
        Checks.due("all lost", 0, x.mailAll(0, 63));
        Checks.due("none lost", 6, x.mailAll(0, 0));
        Checks.due("none left", 0, x.mailAll(0, 0));
    }

    @Holds(in = "Promise 7", sentence = "Throws `IndexOutOfBoundsException` if there is no such part")
    static void mailAllThrowsForThePartFirst() {
        Refusals.refusedWithoutSuchPart("mailAll, 64 lost", (x, part) -> x.mailAll(part, 64));
        Refusals.refusedWithoutSuchPart("mailAll, -1 lost", (x, part) -> x.mailAll(part, -1));
    }

    // ---- 8: forget

    @Holds(in = "Promise 8", sentence = "A reader forgets: all parts that are told become unknown.")
    static void forgetLeavesWhatIsReadAndCounted() {
        SerialRecaps x = Scenes.told("0;0;0;1");
        x.mail(0, 2);
        x.mail(1, 2);
        Checks.due("forget(0)", 2, x.forget(0));
        knowledge(x, "what is read stays", 0, "0020");
        knowledge(x, "another reader", 1, "1120");
        Checks.due("the words so far", 12, x.reader(0, 4));
        Checks.due("the lines so far", 2, x.reader(0, 5));
    }

    @Holds(in = "Promise 8", sentence = "Undoable.")
    static void forgetIsUndone() {
        Saves.undone(Scenes::calm, "forget", x -> x.forget(3));
        Saves.undone(Scenes::calm, "forget of nothing", x -> x.forget(0));
        Saves.undone(Scenes::empty, "forget without parts", x -> x.forget(5));
    }

    @Holds(in = "Promise 8", sentence = "`reader`: 0 to 5")
    static void forgetTakesReaders0And5() {
        SerialRecaps x = Scenes.parts(3);
        x.mailAll(2, 0);
        x.forget(0);
        x.forget(5);
        knowledge(x, "the first reader", 0, "002");
        knowledge(x, "the last reader", 5, "002");
        for (int reader = 1; reader < 5; reader++) {
            knowledge(x, "no reader of these", reader, "112");
        }
    }

    @Holds(in = "Promise 8", sentence = "Throws `IndexOutOfBoundsException` if there is no such reader")
    static void forgetRefusesReadersMinus1And6() {
        Refusals.refusedOutside(0, 5, Refusals.INDEX, "forget", (x, reader) -> x.forget(reader));
    }

    @Holds(in = "Promise 8", sentence = "Returns how many.")
    static void forgetReturns0And19() {
        Checks.due("without parts", 0, new SerialRecaps().forget(0));
        SerialRecaps x = Scenes.parts(20);
        Checks.due("of unknown ones", 0, x.forget(0));
        x.set(0, 19);
        x.mail(0, 19);
        Checks.due("of all but the last", 19, x.forget(0));
        Checks.due("again", 0, x.forget(0));
        x.catchUp(0);
        Checks.due("of those read", 0, x.forget(0));
    }

    // ---- 9: catchUp

    @Holds(in = "Promise 9", sentence = "from the first one on, each by a mail.")
    static void catchUpMailsEachUnreadPart() {
        SerialRecaps x = Scenes.told("0w11;0w20;1w99;01w5");
        x.mail(4, 1);
        Checks.due("catchUp(4)", 11 + 99 + 5, x.catchUp(4));
        knowledge(x, "all", 4, "2222");
        Checks.due("mails", 4, x.count(2));
        Checks.due("words", 22 + 115, x.reader(4, 4));
        Checks.due("lines, as before", 1, x.reader(4, 5));
        Checks.due("left out", 0, x.reader(4, 6));
        Checks.due("another reader", 0, x.reader(3, 4));
    }

    @Holds(in = "Promise 9", sentence = "A reader reads all parts that are not read")
    static void catchUpWithoutParts() {
        SerialRecaps x = new SerialRecaps();
        Checks.due("catchUp(0)", 0, x.catchUp(0));
        Checks.due("mails", 0, x.count(2));
    }

    @Holds(in = "Promise 9", sentence = "A reader reads all parts that are not read")
    static void catchUpWithOneUnreadPartOf20() {
        for (int unread : new int[] {0, 19}) {
            SerialRecaps x = Scenes.parts(20);
            for (int part = 0; part < 20; part++) {
                if (part != unread) {
                    x.mail(1, part);
                }
            }
            Checks.due("words", 10, x.catchUp(1));
            Checks.due("mails", 20, x.count(2));
            Checks.due("all", 20, x.reader(1, 0));
        }
    }

    @Holds(in = "Promise 9", sentence = "Undoable, as one call.")
    static void catchUpIsUndoneAsOneCall() {
        Saves.undone(Scenes::calm, "catchUp", x -> x.catchUp(3));
        Saves.undone(Scenes::empty, "catchUp without parts", x -> x.catchUp(0));
        Saves.undone(Scenes::allRead, "catchUp with nothing to read", x -> x.catchUp(0));
        Saves.undone(() -> Scenes.told("0;".repeat(19) + "0"), "catchUp of 20 parts", x -> x.catchUp(5));
    }

    @Holds(in = "Promise 9", sentence = "`reader`: 0 to 5")
    static void catchUpTakesReaders0And5() {
        SerialRecaps x = Scenes.parts(2);
        x.catchUp(0);
        x.catchUp(5);
        Checks.due("who has read the first", 33, x.part(0, 5));
        Checks.due("who has read the last", 33, x.part(1, 5));
    }

    @Holds(in = "Promise 9", sentence = "Throws `IndexOutOfBoundsException` if there is no such reader")
    static void catchUpRefusesReadersMinus1And6() {
        Refusals.refusedOutside(0, 5, Refusals.INDEX, "catchUp", (x, reader) -> x.catchUp(reader));
    }

    @Holds(in = "Promise 9", sentence = "Returns the words that are read by that.")
    static void catchUpReturns0And1980Words() {
        SerialRecaps x = new SerialRecaps();
        for (int part = 0; part < 20; part++) {
            x.add(63, part % 6, 99);
        }
        Checks.due("20 parts of 99 words", 1980, x.catchUp(0));
        Checks.due("nothing left", 0, x.catchUp(0));
        Checks.due("words so far", 1980, x.reader(0, 4));
    }
}
