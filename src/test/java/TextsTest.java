/** Promises 10 to 14: append, clearBuffer, firstError, addAll, undo. */
final class TextsTest {
    private static final String NINETEEN = "0;".repeat(18) + "0";
    private static final String TWENTY = NINETEEN + ";0";

    public static void main(String[] args) {
        Sentences.run(TextsTest.class);
    }

    // ---- 10: append

    @Holds(in = "Promise 10", sentence = "Appends a character to the buffer.")
    static void appendPutsTheCharacterLast() {
        SerialRecaps x = Scenes.typed("0!0w7");
        x.addAll();
        Checks.due("plots", 1, x.part(0, 0));
        Checks.due("cliff", 0, x.part(0, 1));
        Checks.due("words", 7, x.part(0, 2));
    }

    @Holds(in = "Promise 10", sentence = "Appends a character to the buffer.")
    static void appendSavesNothingAndKeepsTheSavedStates() {
        SerialRecaps x = Scenes.busy();
        x.append('0');
        Checks.due("saved states", 6, x.count(6));
        x.clearBuffer();
        Scenes.type(x, "0!0;1w");
        Refusals.unchanged(Scenes::busy, "append", x);
    }

    @Holds(in = "Promise 10", sentence = "`code`: the character code, 33 to 126")
    static void appendTakesAllCodes33To126() {
        for (int code = 33; code <= 126; code++) {
            SerialRecaps x = new SerialRecaps();
            PlainSerial y = new PlainSerial();
            Checks.due("append(" + code + ")", 1, x.append(code));
            y.append(code);
            Checks.due("digest with " + code, y.digest(), x.digest());
        }
    }

    @Holds(in = "Promise 10", sentence = "Throws `IllegalArgumentException` if code is not 33 to 126")
    static void appendRefusesCodes32And127() {
        Refusals.refusedOutside(33, 126, Refusals.ARGUMENT, "append", (x, code) -> x.append(code));
        for (int code : new int[] {0, -1, '0' + 128, '0' + 256, '0' + 65536, '0' - 256}) {
            Refusals.refusedEverywhere(Refusals.ARGUMENT, "append(" + code + ")", x -> x.append(code));
        }
    }

    @Holds(in = "Promise 10", sentence = "Returns the new length of the buffer.")
    static void appendReturns1To60() {
        SerialRecaps x = new SerialRecaps();
        for (int length = 1; length <= 60; length++) {
            Checks.due("append", length, x.append(length % 2 == 0 ? 33 : 126));
        }
        x.clearBuffer();
        Checks.due("append to the cleared buffer", 1, x.append(48));
    }

    @Holds(in = "Promise 10", sentence = "Throws `IllegalStateException` if the buffer has 60 characters")
    static void appendRefusesThe61stCharacter() {
        Refusals.refused(Scenes::full, Refusals.STATE, "the 61st", x -> x.append(48));
        Refusals.refused(() -> Scenes.typed("~".repeat(60)), Refusals.STATE, "the 61st", x -> x.append(33));
    }

    @Holds(in = "Promise 10", sentence = "Throws `IllegalArgumentException` if code is not 33 to 126")
    static void appendThrowsForTheCodeFirst() {
        Refusals.refused(Scenes::full, Refusals.ARGUMENT, "the 61st, and 32", x -> x.append(32));
        Refusals.refused(Scenes::full, Refusals.ARGUMENT, "the 61st, and 127", x -> x.append(127));
    }

    // ---- 11: clearBuffer

    @Holds(in = "Promise 11", sentence = "Clears the buffer.")
    static void clearBufferLeavesNoCharacter() {
        SerialRecaps x = Scenes.typed("0;a");
        x.clearBuffer();
        Checks.due("no error is left", 0, x.firstError());
        Checks.due("as a new one", new SerialRecaps().digest(), x.digest());
        Checks.due("nothing is saved", 0, x.count(6));
        Scenes.type(x, "5");
        Checks.due("nothing of it comes again", 1, x.addAll());
        Checks.due("plots", 32, x.part(0, 0));
    }

    @Holds(in = "Promise 11", sentence = "Returns the length that it had.")
    static void clearBufferReturns0And60() {
        SerialRecaps x = new SerialRecaps();
        Checks.due("empty", 0, x.clearBuffer());
        Scenes.type(x, "a");
        Checks.due("one", 1, x.clearBuffer());
        Scenes.type(x, Scenes.SIXTY);
        Checks.due("full", 60, x.clearBuffer());
        Checks.due("cleared", 0, x.clearBuffer());
    }

    // ---- 12: firstError

    @Holds(in = "Promise 12", sentence = "Finds the first syntax error of the buffer.")
    static void firstErrorChangesNothing() {
        SerialRecaps x = Scenes.busy();
        Checks.due("firstError()", 6, x.firstError());
        Checks.due("firstError() again", 6, x.firstError());
        Refusals.unchanged(Scenes::busy, "firstError()", x);
    }

    @Holds(in = "Promise 12", sentence = "Returns the index of the first character that is a syntax error")
    static void firstErrorReturns0AndTheLastIndex() {
        Checks.due("the only character", 0, Scenes.typed("w").firstError());
        Checks.due("the first of two errors", 0, Scenes.typed("ww").firstError());
        Checks.due("the last of 60", 59, Scenes.typed("0;".repeat(29) + "0a").firstError());
        Checks.due("the first of 60", 0, Scenes.typed("a".repeat(60)).firstError());
    }

    @Holds(in = "Promise 12", sentence = "the length of the buffer if there is none.")
    static void firstErrorReturns0And60WithoutError() {
        Checks.due("empty", 0, new SerialRecaps().firstError());
        Checks.due("full, and not complete", 60, Scenes.typed(Scenes.SIXTY).firstError());
        Checks.due("full, and complete", 60, Scenes.typed("0;".repeat(29) + "01").firstError());
        Checks.due("without an error, and not complete", 1, Scenes.typed("0").firstError());
    }

    // ---- 13: addAll

    @Holds(in = "Promise 13", sentence = "Adds the parts in the buffer, all or none, and clears the buffer.")
    static void addAllAddsThePartsAsTheyAreTold() {
        SerialRecaps x = new SerialRecaps();
        x.add(1, 0, 5);
        Scenes.type(x, "0!0w9;135;24!4;5w99;012345!5");
        Checks.due("addAll()", 6, x.addAll());
        int[][] due = {{1, 0, 5}, {1, 0, 9}, {42, -1, 10}, {20, 4, 10}, {32, -1, 99}, {63, 5, 10}};
        for (int part = 0; part < due.length; part++) {
            for (int what = 0; what < 3; what++) {
                Checks.due("part(" + part + ", " + what + ")", due[part][what], x.part(part, what));
            }
        }
        Checks.due("needs", 16 + 8 + 4 + 2, x.part(5, 3));
        Checks.due("the buffer is clear", 0, x.clearBuffer());
    }

    @Holds(in = "Promise 13", sentence = "Adds the parts in the buffer, all or none")
    static void addAllAddsNoneIfOneIsTooMany() {
        Refusals.refused(() -> after(Scenes.parts(18), "1;2;3"), Refusals.STATE, "3 to 18", SerialRecaps::addAll);
        Refusals.refused(() -> after(Scenes.parts(19), "1;2"), Refusals.STATE, "2 to 19", SerialRecaps::addAll);
    }

    private static SerialRecaps after(SerialRecaps x, String text) {
        Scenes.type(x, text);
        return x;
    }

    @Holds(in = "Promise 13", sentence = "and clears the buffer.")
    static void addAllClearsOneAnd60Characters() {
        SerialRecaps x = Scenes.told("5");
        Checks.due("of one", 0, x.clearBuffer());
        SerialRecaps y = Scenes.told("012345!5w99;".repeat(4) + "012345!5w99");
        Checks.due("parts", 5, y.count(0));
        Checks.due("of 59", 0, y.clearBuffer());
        SerialRecaps z = Scenes.told("012345!5w99;".repeat(4) + "0;01234!4w99");
        Checks.due("parts", 6, z.count(0));
        Checks.due("of 60", 0, z.clearBuffer());
    }

    @Holds(in = "Promise 13", sentence = "Undoable, as one call.")
    static void addAllIsUndoneAsOneCallWithoutItsBuffer() {
        SerialRecaps x = Scenes.calm();
        x.clearBuffer();
        long before = x.digest();
        Scenes.type(x, "0;1;2!2");
        x.addAll();
        Checks.due("saved states", 4, x.count(6));
        Checks.due("undo()", 3, x.undo());
        Checks.due("as before, with an empty buffer", before, x.digest());
    }

    @Holds(in = "Promise 13", sentence = "Returns how many parts there are then.")
    static void addAllReturns1And20() {
        Checks.due("one", 1, Scenes.typed("0").addAll());
        Checks.due("20 at once", 20, Scenes.typed(TWENTY).addAll());
        SerialRecaps x = Scenes.typed(NINETEEN);
        Checks.due("19", 19, x.addAll());
        Scenes.type(x, "1");
        Checks.due("the 20th", 20, x.addAll());
    }

    @Holds(in = "Promise 13", sentence = "Throws `IllegalArgumentException` if the buffer is not complete parts as a text")
    static void addAllRefusesAnEmptyBuffer() {
        Refusals.refused(() -> Scenes.parts(20), Refusals.ARGUMENT, "20 parts", SerialRecaps::addAll);
        Refusals.refused(() -> Scenes.parts(3), Refusals.ARGUMENT, "3 parts", SerialRecaps::addAll);
        Refusals.refused(Scenes::empty, Refusals.ARGUMENT, "no parts", SerialRecaps::addAll);
    }

    @Holds(in = "Promise 13", sentence = "Throws `IllegalArgumentException` if the buffer is not complete parts as a text")
    static void addAllRefusesWhatBreaksOff() {
        for (String text : new String[] {"0;", "0!", "0w", "0;1!", "0;1w", "0;0!0;", "0!0w", "0w5;", Scenes.SIXTY}) {
            refusesText(text);
        }
    }

    @Holds(in = "Promise 13", sentence = "Throws `IllegalArgumentException` if the buffer is not complete parts as a text")
    static void addAllRefusesSyntaxErrors() {
        for (String text : new String[] {"00", "0;6", "0w100", ";0", "0;;1", "a", "~".repeat(60), "0a"}) {
            refusesText(text);
        }
    }

    private static void refusesText(String text) {
        Refusals.refused(() -> after(Scenes.parts(2), text), Refusals.ARGUMENT, "addAll of " + text,
            SerialRecaps::addAll);
    }

    @Holds(in = "Promise 13", sentence = "Throws `IllegalStateException` if there would be more than 20")
    static void addAllRefusesThe21stPart() {
        Refusals.refused(() -> after(Scenes.parts(20), "1"), Refusals.STATE, "1 to 20", SerialRecaps::addAll);
        Refusals.refused(() -> after(Scenes.parts(1), TWENTY), Refusals.STATE, "20 to 1", SerialRecaps::addAll);
        Refusals.refused(() -> Scenes.typed(TWENTY + ";0"), Refusals.STATE, "21", SerialRecaps::addAll);
        Refusals.refused(() -> Scenes.typed("0;".repeat(29) + "0"), Refusals.STATE, "30", SerialRecaps::addAll);
        Refusals.refused(() -> Scenes.typed("0;".repeat(29) + "01"), Refusals.STATE, "30 in 60 characters",
            SerialRecaps::addAll);
    }

    @Holds(in = "Promise 13", sentence = "Throws `IllegalArgumentException` if the buffer is not complete parts as a text")
    static void addAllThrowsForTheTextFirst() {
        Refusals.refused(Scenes::full, Refusals.ARGUMENT, "20 parts, and 5 that break off", SerialRecaps::addAll);
        Refusals.refused(() -> Scenes.typed(TWENTY + ";0;"), Refusals.ARGUMENT, "21 that break off",
            SerialRecaps::addAll);
        Refusals.refused(() -> Scenes.typed(TWENTY + ";00"), Refusals.ARGUMENT, "21 with an error",
            SerialRecaps::addAll);
    }

    // ---- 14: undo

    @Holds(in = "Promise 14", sentence = "Restores the latest saved state, and drops it.")
    static void undoGoesBackCallByCall() {
        SerialRecaps x = Scenes.typed("0!0;1;01w50");
        long[] before = new long[6];
        Runnable[] calls = {() -> x.addAll(), () -> x.set(0, 1), () -> x.mail(0, 2), () -> x.mailAll(1, 5),
            () -> x.change(0, 8, 3), () -> x.removeLast()};
        for (int i = 0; i < 6; i++) {
            before[i] = x.digest();
            calls[i].run();
            Checks.due("saved", i + 1, x.count(6));
        }
        for (int i = 5; i >= 1; i--) {
            Checks.due("undo()", i, x.undo());
            Checks.due("as before", before[i], x.digest());
        }
        Checks.due("undo()", 0, x.undo());
        Scenes.type(x, "0!0;1;01w50");
        Checks.due("as before, with the buffer typed again", before[0], x.digest());
    }

    @Holds(in = "Promise 14", sentence = "Restores the latest saved state, and drops it.")
    static void undoOfUndoIsNone() {
        SerialRecaps x = new SerialRecaps();
        x.set(0, 1);
        x.set(0, 2);
        x.undo();
        Checks.due("undo() brings the one before", 0, x.undo());
        Checks.due("setting(0)", 4, x.setting(0));
    }

    @Holds(in = "Promise 14", sentence = "Returns how many saved states are left.")
    static void undoReturns5To0() {
        SerialRecaps x = Scenes.full();
        for (int left = 5; left >= 0; left--) {
            Checks.due("undo()", left, x.undo());
            Checks.due("count(6)", left, x.count(6));
        }
    }

    @Holds(in = "Promise 14", sentence = "Throws `IllegalStateException` if there is none")
    static void undoRefusesWithoutASavedState() {
        Refusals.refused(Scenes::empty, Refusals.STATE, "new", SerialRecaps::undo);
        Refusals.refused(() -> Scenes.typed("0"), Refusals.STATE, "only typed", SerialRecaps::undo);
        Refusals.refused(TextsTest::undoneOnce, Refusals.STATE, "one undone", SerialRecaps::undo);
        Refusals.refused(TextsTest::undoneSixTimes, Refusals.STATE, "six undone", SerialRecaps::undo);
    }

    private static SerialRecaps undoneOnce() {
        SerialRecaps x = new SerialRecaps();
        x.set(0, 9);
        x.undo();
        return x;
    }

    private static SerialRecaps undoneSixTimes() {
        SerialRecaps x = Scenes.busy();
        for (int i = 0; i < 6; i++) {
            x.undo();
        }
        return x;
    }
}
