/** The chapters before the promises: limits, parts and plots, readers, settings, input text, undo, exceptions. */
final class TermsTest {
    private static final int NONE = SerialRecaps.NONE;
    private static final String TEXT = "Parts as a text are one or more parts with \";\" between them";
    private static final String PLOTS = "digits 0 to 5 in ascending order without repetition";
    private static final String CLIFF = "perhaps \"!\" and a plot of these (its cliff)";
    private static final String WORDS = "and perhaps \"w\" and words, 1 to 99, without a leading zero";
    private static final String SYNTAX = "a character is a syntax error if no parts as a text, of any length, begin with";
    private static final String SAVES = "Each method that is marked \"undoable\" and does not throw an exception saves";

    public static void main(String[] args) {
        Sentences.run(TermsTest.class);
    }

    // ---- what it is

    @Holds(in = "What it is", sentence = "An object is used for at most 512 calls after it has been made")
    static void the512thCallIsAnsweredAsTheOthers() {
        SerialRecaps x = new SerialRecaps();
        for (int call = 1; call < 512; call++) {
            Checks.due("set, call " + call, call == 1 ? 4 : (call - 1) % 20, x.set(0, call % 20));
        }
        Checks.due("setting(0), call 512", 511 % 20, x.setting(0));
    }

    @Holds(in = "What it is", sentence = "An object is used for at most 512 calls after it has been made")
    static void countsGoOnThrough512Calls() {
        SerialRecaps x = new SerialRecaps();
        for (int part = 0; part < 20; part++) {
            x.add(63, 0, 99);
        }
        for (int reader = 0; reader < 6; reader++) {
            x.catchUp(reader);
        }
        int words = 6 * 20 * 99;
        for (int round = 0; round < 161; round++) {
            x.removeLast();
            x.add(63, 0, 99);
            words += 99 * x.mailAll(19, 0);
        }
        // 20 + 6 + 3 * 161 calls are 509.
        Checks.due("the words of 161 rounds more", 6 * (20 + 161) * 99, words);
        Checks.due("by all, call 510", words, x.count(4));
        Checks.due("mails, call 511", 6 * (20 + 161), x.count(2));
        Checks.due("by one, call 512", words / 6, x.reader(5, 4));
    }

    // ---- parts, plots

    @Holds(in = "Terms", sentence = "There are 6 plots, numbered from 0.")
    static void plots0To5AreThere() {
        SerialRecaps x = new SerialRecaps();
        for (int plot = 0; plot < 6; plot++) {
            x.add(1 << plot, plot, 10);
            Checks.due("the latest of plot " + plot, plot, x.plot(plot, 1));
        }
    }

    @Holds(in = "Terms", sentence = "There are 6 plots, numbered from 0.")
    static void plotsMinus1And6AreNotThere() {
        Refusals.refusedOutside(0, 5, Refusals.INDEX, "plot(.., 0)", (x, plot) -> x.plot(plot, 0));
        Refusals.refusedEverywhere(Refusals.ARGUMENT, "add(64, NONE, 10)", x -> x.add(64, NONE, 10));
        Refusals.refusedEverywhere(Refusals.ARGUMENT, "add(63, 6, 10)", x -> x.add(63, 6, 10));
    }

    @Holds(in = "Terms", sentence = "There are at most 20 parts, numbered from 0 in the order in which they came.")
    static void twentyPartsAreNumberedAsTheyCame() {
        SerialRecaps x = new SerialRecaps();
        for (int part = 0; part < 18; part++) {
            Checks.due("add", part, x.add(1, NONE, 1 + part));
        }
        Scenes.type(x, "0w19;0w20");
        Checks.due("addAll()", 20, x.addAll());
        for (int part = 0; part < 20; part++) {
            Checks.due("words of " + part, 1 + part, x.part(part, 2));
        }
    }

    @Holds(in = "Terms", sentence = "There are at most 20 parts, numbered from 0 in the order in which they came.")
    static void the21stPartIsRefused() {
        Refusals.refused(() -> Scenes.parts(20), Refusals.STATE, "add", x -> x.add(1, NONE, 10));
        Refusals.refused(TermsTest::twentyAndOne, Refusals.STATE, "addAll()", SerialRecaps::addAll);
    }

    private static SerialRecaps twentyAndOne() {
        SerialRecaps x = Scenes.parts(20);
        x.append('0');
        return x;
    }

    @Holds(in = "Terms", sentence = "A part goes on with one or more plots")
    static void onePlotAndSixPlotsAreTakenAndNoneIsRefused() {
        SerialRecaps x = new SerialRecaps();
        Checks.due("one plot", 0, x.add(16, NONE, 10));
        Checks.due("six plots", 1, x.add(63, NONE, 10));
        Checks.due("six to one", 63, x.change(1, 1, NONE));
        Refusals.refusedEverywhere(Refusals.ARGUMENT, "add without a plot", y -> y.add(0, NONE, 10));
        Refusals.refused(Scenes::busy, Refusals.ARGUMENT, "change without a plot", y -> y.change(0, 0, NONE));
    }

    @Holds(in = "Terms", sentence = "it has words, 1 to 99")
    static void words1And99AreTakenAnd0And100AreRefused() {
        SerialRecaps x = Scenes.told("0w1;0w99");
        x.add(1, NONE, 1);
        x.add(1, NONE, 99);
        Checks.due("the sum of words", 200, x.count(1));
        Refusals.refusedOutside(1, 99, Refusals.ARGUMENT, "words", (y, words) -> y.add(1, NONE, words));
    }

    @Holds(in = "Terms", sentence = "and perhaps a cliff: one of its plots, which breaks off there.")
    static void cliffIsNoneOrOneOfThePlots() {
        SerialRecaps x = new SerialRecaps();
        int[] due = {NONE, 1, 4};
        for (int cliff : due) {
            x.add(18, cliff, 10);
        }
        for (int part = 0; part < 3; part++) {
            Checks.due("cliff of " + part, due[part], x.part(part, 1));
        }
        for (int cliff : new int[] {-2, 0, 2, 3, 5, 6}) {
            Refusals.refusedEverywhere(Refusals.ARGUMENT, "cliff " + cliff, y -> y.add(18, cliff, 10));
        }
    }

    private static final String NEEDS = "A part needs, for each of its plots, the latest earlier part";

    @Holds(in = "Terms", sentence = NEEDS)
    static void firstPartNeedsNone() {
        SerialRecaps x = Scenes.told("012345;012345");
        Checks.due("needs of the first", 0, x.part(0, 3));
        Checks.due("all it needs", 0, x.part(0, 6));
    }

    @Holds(in = "Terms", sentence = NEEDS)
    static void aPartNeedsOnePartForAllItsPlotsOrOneForEach() {
        SerialRecaps x = Scenes.told("012345;012345;0;1;2;3;4;5;012345");
        Checks.due("one for all", 1, x.part(1, 3));
        Checks.due("one for each", 63 << 2, x.part(8, 3));
    }

    @Holds(in = "Terms", sentence = NEEDS)
    static void lastOf20PartsNeedsTheLatestEarlierOneAlone() {
        SerialRecaps x = Scenes.parts(20);
        Checks.due("not itself", 1 << 18, x.part(19, 3));
        Checks.due("not a later one", 1 << 17, x.part(18, 3));
        x.change(18, 2, NONE);
        Checks.due("the latest with its plot", 1 << 17, x.part(19, 3));
        Checks.due("none with its plot", 0, x.part(18, 3));
    }

    // ---- readers

    @Holds(in = "Terms", sentence = "There are 6 readers, numbered from 0.")
    static void readers0To5AreThere() {
        SerialRecaps x = Scenes.parts(1);
        for (int reader = 0; reader < 6; reader++) {
            x.mail(reader, 0);
        }
        Checks.due("who has read it", 63, x.part(0, 5));
    }

    @Holds(in = "Terms", sentence = "There are 6 readers, numbered from 0.")
    static void readersMinus1And6AreNotThere() {
        Refusals.refusedOutside(0, 5, Refusals.INDEX, "mail", (x, reader) -> x.mail(reader, 0));
        Refusals.refusedOutside(0, 5, Refusals.INDEX, "forget", (x, reader) -> x.forget(reader));
        Refusals.refusedOutside(0, 5, Refusals.INDEX, "catchUp", (x, reader) -> x.catchUp(reader));
        Refusals.refusedOutside(0, 5, Refusals.INDEX, "knows", (x, reader) -> x.knows(reader, 0));
        Refusals.refusedOutside(0, 5, Refusals.INDEX, "reader", (x, reader) -> x.reader(reader, 0));
        Refusals.refusedOutside(0, 5, Refusals.INDEX, "recap", (x, reader) -> x.recap(reader, 0, 0));
        Refusals.refusedOutside(0, 5, Refusals.INDEX, "easiest", (x, reader) -> x.easiest(reader));
        Refusals.refusedOutside(0, 5, Refusals.INDEX, "enough", (x, reader) -> x.enough(reader));
    }

    @Holds(in = "Terms", sentence = "To a reader each part is unknown (0, at first), told (1), or read (2).")
    static void eachPartIsUnknownAtFirst() {
        SerialRecaps x = Scenes.parts(20);
        for (int reader = 0; reader < 6; reader++) {
            for (int part = 0; part < 20; part++) {
                Checks.due("knows(" + reader + ", " + part + ")", 0, x.knows(reader, part));
            }
        }
    }

    private static final String MISSED = "all unknown ones that it needs, and all unknown ones that any missed part needs.";

    @Holds(in = "Terms", sentence = MISSED)
    static void nothingIsMissedForTheFirstPart() {
        SerialRecaps x = Scenes.parts(20);
        Checks.due("told", 0, x.recap(0, 0, 0));
        Checks.due("left out", 0, x.recap(0, 0, 3));
    }

    @Holds(in = "Terms", sentence = MISSED)
    static void all19AreMissedForTheLastPart() {
        SerialRecaps x = Scenes.parts(20);
        x.set(0, 19);
        Checks.due("told", (1 << 19) - 1, x.recap(0, 19, 2));
        SerialRecaps y = Scenes.told("0;01;12;23;34;45;5;3");
        y.set(0, 19);
        Checks.due("from plot to plot", 63, y.recap(0, 6, 2));
        Checks.due("not what no missed part needs", 31, y.recap(0, 7, 2));
    }

    @Holds(in = "Terms", sentence = "(Beyond a part that is told or read nothing is missed.)")
    static void nothingIsMissedBeyondAReadPart() {
        SerialRecaps x = Scenes.told("0;0;0;0;0");
        x.set(0, 0);
        x.mail(0, 2);
        x.set(0, 4);
        Checks.due("told", 8, x.recap(0, 4, 2));
        Checks.due("nothing", 0, x.recap(0, 3, 2));
    }

    @Holds(in = "Terms", sentence = "(Beyond a part that is told or read nothing is missed.)")
    static void nothingIsMissedBeyondAToldPart() {
        SerialRecaps x = Scenes.told("0;0;01;0;1");
        x.set(0, 1);
        x.mail(1, 3);
        Checks.due("the part before is told", 1, x.knows(1, 2));
        Checks.due("nothing", 0, x.recap(1, 4, 0) + x.recap(1, 4, 3));
        Checks.due("what the told part needs itself", 2, x.recap(1, 2, 2));
    }

    @Holds(in = "Terms", sentence = "(Beyond a part that is told or read nothing is missed.)")
    static void whatIsReachedOnAnotherWayIsMissed() {
        SerialRecaps x = Scenes.told("01;0;1;01");
        x.mail(0, 1);
        x.forget(0);
        Checks.due("past the read part, by the other one", 5, x.recap(0, 3, 2));
    }

    private static final String RECAP = "but if they are more than setting 0, only so many of them with the greatest numbers";

    @Holds(in = "Terms", sentence = RECAP)
    static void asManyMissedPartsAsTheSettingAreAllTold() {
        SerialRecaps x = Scenes.parts(20);
        for (int lines = 0; lines <= 19; lines++) {
            x.set(0, lines);
            Checks.due("told of part " + lines, (1 << lines) - 1, x.recap(0, lines, 2));
            Checks.due("left out", 0, x.recap(0, lines, 3));
        }
    }

    @Holds(in = "Terms", sentence = RECAP)
    static void oneMissedPartMoreThanTheSettingLeavesTheLowestOut() {
        SerialRecaps x = Scenes.parts(20);
        for (int lines = 0; lines < 19; lines++) {
            x.set(0, lines);
            Checks.due("told of part " + (lines + 1), (1 << lines + 1) - 2, x.recap(0, lines + 1, 2));
            Checks.due("left out", 1, x.recap(0, lines + 1, 3));
        }
    }

    @Holds(in = "Terms", sentence = "the others are left out.")
    static void theOthersStayUnknown() {
        SerialRecaps x = Scenes.parts(6);
        x.mail(0, 5);
        Checks.due("left out", 0, x.knows(0, 0));
        Checks.due("told", 1, x.knows(0, 1));
        x.set(0, 0);
        x.mail(1, 5);
        Checks.due("all left out", 5, x.reader(1, 2));
    }

    private static final String LINE = "a line with the words of this part divided by setting 1, rounded up.";

    @Holds(in = "Terms", sentence = LINE)
    static void aLineHasAtLeastOneWordAndAtMostThePartsWords() {
        int[][] due = {{1, 1, 1}, {1, 20, 1}, {19, 20, 1}, {20, 20, 1}, {21, 20, 2}, {99, 20, 5}, {99, 1, 99},
            {9, 10, 1}, {10, 10, 1}, {11, 10, 2}, {98, 2, 49}, {99, 2, 50}};
        for (int[] d : due) {
            SerialRecaps x = new SerialRecaps();
            x.add(1, NONE, d[0]);
            x.add(1, NONE, 10);
            x.set(1, d[1]);
            Checks.due(d[0] + " words by " + d[1], d[2], x.recap(0, 1, 1));
        }
    }

    @Holds(in = "Terms", sentence = LINE)
    static void eachLineIsRoundedUpByItself() {
        SerialRecaps x = Scenes.told("0w1;0w7;0w8;0w99;0");
        for (int into = 1; into <= 20; into++) {
            x.set(1, into);
            int due = 0;
            for (int words : new int[] {1, 7, 8, 99}) {
                due += (int) Math.ceil(words / (double) into);
            }
            Checks.due("words by " + into, due, x.recap(0, 4, 1));
        }
    }

    @Holds(in = "Terms", sentence = "When a mail with a part reaches a reader, all parts that its recap tells become told")
    static void aMailTellsAndIsReadAndLeavesTheRest() {
        SerialRecaps x = Scenes.told("0;0;1;0;2;0");
        x.mail(0, 1);
        x.mail(0, 5);
        int[] due = {1, 2, 0, 1, 0, 2};
        for (int part = 0; part < 6; part++) {
            Checks.due("knows(0, " + part + ")", due[part], x.knows(0, part));
        }
        x.mail(0, 3);
        Checks.due("told becomes read", 2, x.knows(0, 3));
        Checks.due("read stays", 2, x.knows(0, 1));
    }

    @Holds(in = "Terms", sentence = "The reader reads the words of the part and of the lines.")
    static void wordsOfThePartAloneAndOf19Lines() {
        SerialRecaps x = Scenes.parts(20);
        x.set(0, 19);
        x.mail(0, 0);
        Checks.due("of the part alone", 10, x.reader(0, 4));
        x.mail(1, 19);
        Checks.due("of the part and 19 lines", 29, x.reader(1, 4));
        x.set(0, 0);
        x.mail(2, 19);
        Checks.due("not of those left out", 10, x.reader(2, 4));
    }

    private static final String OPEN = "A cliff of a part is open to a reader, if the part is told or read";

    @Holds(in = "Terms", sentence = OPEN)
    static void cliffIsOpenIfThePartIsToldOrRead() {
        SerialRecaps x = Scenes.told("01!0;1!1;5!5");
        Checks.due("unknown", 0, x.reader(0, 3));
        x.mail(0, 0);
        Checks.due("read, and its own plots don't close it", 1, x.reader(0, 3));
        x.mail(1, 1);
        Checks.due("told", 3, x.reader(1, 3));
        x.mail(1, 2);
        Checks.due("the last part", 35, x.reader(1, 3));
        SerialRecaps y = Scenes.parts(19);
        y.add(33, 5, 10);
        y.mail(3, 19);
        Checks.due("the last of 20", 32, y.reader(3, 3));
    }

    @Holds(in = "Terms", sentence = "and no later part that goes on with the plot of the cliff is told or read.")
    static void cliffIsClosedByALaterKnownPartOfItsPlot() {
        SerialRecaps x = Scenes.told("0!0;1;0;0");
        x.mail(0, 0);
        x.mail(0, 1);
        Checks.due("another plot does not close it", 1, x.reader(0, 3));
        x.mail(1, 3);
        Checks.due("read closes it", 0, x.reader(1, 3));
        x.mail(2, 3);
        x.forget(2);
        x.mail(2, 0);
        Checks.due("the last part closes it", 0, x.reader(2, 3));
        SerialRecaps y = Scenes.told("0!0;01;1");
        y.mail(0, 0);
        y.mail(0, 2);
        Checks.due("told closes it", 0, y.reader(0, 3));
        y.forget(0);
        Checks.due("what is forgotten does not", 1, y.reader(0, 3));
    }

    @Holds(in = "Terms", sentence = "and no later part that goes on with the plot of the cliff is told or read.")
    static void cliffIsNotClosedByEarlierOrUnknownParts() {
        SerialRecaps x = Scenes.told("0!0;0;0!0");
        x.mail(0, 0);
        Checks.due("unknown ones close nothing", 1, x.reader(0, 3));
        x.mail(2, 2);
        Checks.due("earlier ones close nothing", 1, x.reader(2, 3));
    }

    // ---- settings

    @Holds(in = "Terms", sentence = "0: the most lines of a recap, 0 to 19, at first 4")
    static void setting0Is4AtFirstAndBounds0And19() {
        SerialRecaps x = Scenes.parts(20);
        Checks.due("at first", 4, x.setting(0));
        Checks.due("lines at first", 4, x.recap(0, 19, 0));
        x.set(0, 0);
        Checks.due("no lines", 0, x.recap(0, 19, 0));
        x.set(0, 19);
        Checks.due("19 lines", 19, x.recap(0, 19, 0));
        Refusals.refusedOutside(0, 19, Refusals.ARGUMENT, "set(0, ..)", (y, value) -> y.set(0, value));
    }

    @Holds(in = "Terms", sentence = "1: how many words become one in a recap, 1 to 20, at first 10.")
    static void setting1Is10AtFirstAndBounds1And20() {
        SerialRecaps x = Scenes.told("0w60;0");
        Checks.due("at first", 10, x.setting(1));
        Checks.due("words at first", 6, x.recap(0, 1, 1));
        x.set(1, 1);
        Checks.due("all words", 60, x.recap(0, 1, 1));
        x.set(1, 20);
        Checks.due("fewest words", 3, x.recap(0, 1, 1));
        Refusals.refusedOutside(1, 20, Refusals.ARGUMENT, "set(1, ..)", (y, value) -> y.set(1, value));
    }

    // ---- input text

    @Holds(in = "Terms", sentence = "The buffer has at most 60 characters.")
    static void the60thCharacterIsTakenAndThe61stRefused() {
        SerialRecaps x = Scenes.typed("0".repeat(59));
        Checks.due("append", 60, x.append('0'));
        Refusals.refused(() -> Scenes.typed("0".repeat(60)), Refusals.STATE, "append", y -> y.append('0'));
    }

    /** The text is complete: no error, and these parts. */
    private static void complete(String text, int parts) {
        SerialRecaps x = Scenes.typed(text);
        Checks.due("firstError of " + text, text.length(), x.firstError());
        Checks.due("addAll of " + text, parts, x.addAll());
    }

    /** The text has no error yet, but breaks off. */
    private static void breaksOff(String text) {
        Checks.due("firstError of " + text, text.length(), Scenes.typed(text).firstError());
        Refusals.refused(() -> Scenes.typed(text), Refusals.ARGUMENT, "addAll of " + text, SerialRecaps::addAll);
    }

    private static void error(String text, int at) {
        Checks.due("firstError of " + text, at, Scenes.typed(text).firstError());
        Refusals.refused(() -> Scenes.typed(text), Refusals.ARGUMENT, "addAll of " + text, SerialRecaps::addAll);
    }

    @Holds(in = "Terms", sentence = TEXT)
    static void textsOfOneAnd20PartsAreComplete() {
        complete("0", 1);
        complete("0;5", 2);
        complete("0;0;0", 3);
        complete("0!0;1w2;5", 3);
        complete("0;".repeat(19) + "0", 20);
        complete("012345!5w99;".repeat(4) + "012345!5w99", 5);
    }

    @Holds(in = "Terms", sentence = TEXT)
    static void textsWithoutAPartAreNotComplete() {
        breaksOff("");
        breaksOff("0;");
        breaksOff("0!0;");
        breaksOff("0w1;");
        breaksOff("0w10;");
        error(";", 0);
        error(";0", 0);
        error("0;;", 2);
        error("0;;0", 2);
        error("0,0", 1);
        error("0:0", 1);
    }

    @Holds(in = "Terms", sentence = "each one or more plots")
    static void aPartInATextHasAPlotFirst() {
        for (String sign : new String[] {"!", "!0", "w", "w5", ";"}) {
            error(sign, 0);
            error("0;" + sign, 2);
        }
        complete("5", 1);
        complete("012345", 1);
    }

    @Holds(in = "Terms", sentence = PLOTS)
    static void plotsInATextAreDigits0To5() {
        complete("0", 1);
        complete("5", 1);
        complete("05", 1);
        error("/", 0);
        error("6", 0);
        error("0/", 1);
        error("06", 1);
        error("9", 0);
        error("a", 0);
    }

    @Holds(in = "Terms", sentence = PLOTS)
    static void plotsInATextAscendWithoutRepetition() {
        for (char first = '0'; first <= '5'; first++) {
            for (char second = '0'; second <= '5'; second++) {
                if (second > first) {
                    complete("" + first + second, 1);
                } else {
                    error("" + first + second, 1);
                }
            }
        }
        complete("012345", 1);
        error("0123455", 6);
        error("0123450", 6);
        error("021", 2);
        complete("5;0", 2);
        complete("345;012", 2);
    }

    @Holds(in = "Terms", sentence = CLIFF)
    static void aCliffInATextIsOneOfThePlots() {
        for (char cliff = '0'; cliff <= '5'; cliff++) {
            complete("012345!" + cliff, 1);
            complete(cliff + "!" + cliff, 1);
            error((cliff == '3' ? "0" : "3") + "!" + cliff, 2);
        }
        complete("024!0", 1);
        complete("024!2", 1);
        complete("024!4", 1);
        error("024!1", 4);
        error("024!5", 4);
        error("0;1!0", 4);
    }

    @Holds(in = "Terms", sentence = CLIFF)
    static void aCliffInATextIsOneDigit() {
        breaksOff("0!");
        error("0!/", 2);
        error("0!6", 2);
        error("0!!", 2);
        error("0!;", 2);
        error("0!w", 2);
        error("01!01", 4);
        error("01!00", 4);
        error("0!0!0", 3);
    }

    @Holds(in = "Terms", sentence = WORDS)
    static void wordsInATextAre1To99() {
        for (int words = 1; words <= 99; words++) {
            SerialRecaps x = Scenes.told("0w" + words + ";0!0w" + words);
            Checks.due("words", words, x.part(0, 2));
            Checks.due("words behind a cliff", words, x.part(1, 2));
        }
        error("0w0", 2);
        error("0w100", 4);
        error("0w990", 4);
        error("0w123", 4);
    }

    @Holds(in = "Terms", sentence = WORDS)
    static void wordsInATextHaveNoLeadingZero() {
        error("0w0", 2);
        error("0w01", 2);
        error("0w09", 2);
        error("0w00", 2);
        complete("0w10", 1);
        complete("0w90", 1);
    }

    @Holds(in = "Terms", sentence = WORDS)
    static void wordsInATextAreDigitsAndComeLast() {
        breaksOff("0w");
        breaksOff("0!0w");
        error("0w/", 2);
        error("0w:", 2);
        error("0w1/", 3);
        error("0w1:", 3);
        error("0w;", 2);
        error("0w!", 2);
        error("0ww", 2);
        error("0w1!", 3);
        error("0w1w", 3);
        error("0w12w", 4);
        error("0w12!0", 4);
        error("0W1", 1);
    }

    @Holds(in = "Terms", sentence = "(10 without it)")
    static void wordsInATextAre10Untold() {
        SerialRecaps x = Scenes.told("0;0!0;0w9;0");
        int[] due = {10, 10, 9, 10};
        for (int part = 0; part < 4; part++) {
            Checks.due("words of " + part, due[part], x.part(part, 2));
        }
    }

    @Holds(in = "Terms", sentence = "(10 without it)")
    static void eachPartInATextHasItsOwn() {
        SerialRecaps x = Scenes.told("01!1w7;5");
        Checks.due("plots", 32, x.part(1, 0));
        Checks.due("cliff", NONE, x.part(1, 1));
        Checks.due("words", 10, x.part(1, 2));
    }

    @Holds(in = "Terms", sentence = "The buffer is read from left to right")
    static void theFirstOfSeveralErrorsCounts() {
        error("0a0a", 1);
        error("00;00", 1);
        error("01w5;1!0;6", 7);
        error("~~", 0);
    }

    @Holds(in = "Terms", sentence = SYNTAX)
    static void whatCouldGoOnIsNoError() {
        for (String text : new String[] {"", "0;", "0!", "0w", "0;1!", "0;1w", "5w9;"}) {
            breaksOff(text);
        }
    }

    @Holds(in = "Terms", sentence = SYNTAX)
    static void whatCouldGoOnOnlyBeyond60CharactersIsNoError() {
        breaksOff("0;".repeat(30));
        breaksOff(Scenes.SIXTY);
        breaksOff("0;".repeat(28) + "01w");
        breaksOff("0;".repeat(29) + "0!");
        breaksOff("0;".repeat(29) + "0w");
    }

    @Holds(in = "Terms", sentence = SYNTAX)
    static void allCharacters33To126AreTriedAtEachPlace() {
        follows("", "012345");
        follows("0;", "012345");
        follows("5w9;", "012345");
        follows("13", "45!w;");
        follows("5", "!w;");
        follows("0!", "0");
        follows("135!", "135");
        follows("135!3", "w;");
        follows("135w", "123456789");
        follows("135!3w", "123456789");
        follows("135w1", "0123456789;");
        follows("135!3w9", "0123456789;");
        follows("135w10", ";");
        follows("135!3w99", ";");
    }

    /** These characters, and no others, go on with a text. */
    private static void follows(String text, String right) {
        for (int code = 33; code <= 126; code++) {
            SerialRecaps x = Scenes.typed(text);
            x.append(code);
            boolean goesOn = right.indexOf(code) >= 0;
            Checks.due("firstError of " + text + (char) code, text.length() + (goesOn ? 1 : 0), x.firstError());
        }
    }

    @Holds(in = "Terms", sentence = SYNTAX)
    static void moreThan20PartsAreNoSyntaxError() {
        for (String text : new String[] {"0;".repeat(20) + "0", "0;".repeat(29) + "01"}) {
            Checks.due("firstError of " + text, text.length(), Scenes.typed(text).firstError());
            Refusals.refused(() -> Scenes.typed(text), Refusals.STATE, "addAll of " + text, SerialRecaps::addAll);
        }
    }

    // ---- undo

    @Holds(in = "Terms", sentence = SAVES)
    static void eachUndoableMethodSavesOneState() {
        Saves.undone(Scenes::calm, "add", x -> x.add(3, 1, 7));
        Saves.undone(Scenes::calm, "change", x -> x.change(4, 3, 1));
        Saves.undone(Scenes::calm, "removeLast", SerialRecaps::removeLast);
        Saves.undone(Scenes::calm, "set", x -> x.set(1, 1));
        Saves.undone(Scenes::calm, "mail", x -> x.mail(0, 4));
        Saves.undone(Scenes::calm, "mailAll", x -> x.mailAll(4, 21));
        Saves.undone(Scenes::calm, "forget", x -> x.forget(3));
        Saves.undone(Scenes::calm, "catchUp", x -> x.catchUp(1));
        SerialRecaps x = Scenes.typed("0;1");
        x.addAll();
        Checks.due("addAll", 1, x.count(6));
        Checks.due("undo()", 0, x.undo());
        Checks.due("as before, but the buffer", new SerialRecaps().digest(), x.digest());
    }

    @Holds(in = "Terms", sentence = SAVES)
    static void aMethodThatThrowsSavesNothing() {
        SerialRecaps x = Scenes.calm();
        Refusals.Ask[] calls = {y -> y.add(0, NONE, 1), y -> y.change(5, 1, NONE), y -> y.set(0, 20),
            y -> y.mail(3, 4), y -> y.mailAll(5, 0), y -> y.forget(6), y -> y.catchUp(-1), SerialRecaps::addAll};
        for (Refusals.Ask call : calls) {
            Checks.outcome(() -> call.of(x));
            Checks.due("saved states", 3, x.count(6));
        }
        Refusals.unchanged(Scenes::calm, "what throws", x);
    }

    @Holds(in = "Terms", sentence = "(also if it changes nothing)")
    static void aMethodThatChangesNothingSaves() {
        Saves.undone(Scenes::calm, "change", x -> x.change(0, 1, 0));
        Saves.undone(Scenes::calm, "set(0, 4)", x -> x.set(0, 4));
        Saves.undone(Scenes::calm, "set(1, 10)", x -> x.set(1, 10));
        Saves.undone(Scenes::calm, "forget", x -> x.forget(0));
        Saves.undone(Scenes::allRead, "catchUp", x -> x.catchUp(0));
        Saves.undone(Scenes::allRead, "mailAll", x -> x.mailAll(0, 63));
    }

    @Holds(in = "Terms", sentence = "all, also what is counted so far, but the buffer and the saved states.")
    static void whatIsCountedSoFarComesBack() {
        SerialRecaps x = Scenes.parts(6);
        x.mailAll(5, 60);
        x.mailAll(4, 1);
        x.undo();
        int[] reader = {1, 4, 1, 0, 14, 4, 1};
        int[] count = {6, 60, 2, 4, 28, 0, 6};
        for (int what = 0; what <= 5; what++) {
            Checks.due("count(" + what + ")", count[what], x.count(what));
        }
        for (int what = 0; what <= 6; what++) {
            Checks.due("reader(1, " + what + ")", reader[what], x.reader(1, what));
            Checks.due("reader(5, " + what + ")", what == 2 ? 6 : 0, x.reader(5, what));
        }
    }

    @Holds(in = "Terms", sentence = "all, also what is counted so far, but the buffer and the saved states.")
    static void whatAPartWasComesBackAfterAnotherTookItsNumber() {
        SerialRecaps x = Scenes.told("3;03!3w7;03");
        x.mailAll(1, 60);
        x.mail(5, 2);
        x.removeLast();
        x.removeLast();
        x.add(32, 5, 99);
        x.undo();
        x.undo();
        int[] due = {9, 3, 7, 1, 0, 3, 1};
        for (int what = 0; what <= 6; what++) {
            Checks.due("part(1, " + what + ")", due[what], x.part(1, what));
        }
        Checks.due("knows(5, 1)", 1, x.knows(5, 1));
    }

    @Holds(in = "Terms", sentence = "but the buffer and the saved states.")
    static void theBufferStaysAsItIs() {
        SerialRecaps x = new SerialRecaps();
        x.set(0, 1);
        Scenes.type(x, Scenes.SIXTY);
        x.undo();
        Checks.due("what was typed since", 60, x.clearBuffer());
        Scenes.type(x, "0;1");
        x.addAll();
        x.undo();
        Checks.due("what was cleared since", 0, x.clearBuffer());
        Scenes.type(x, "5");
        x.set(0, 2);
        x.clearBuffer();
        x.undo();
        Checks.due("what was cleared since", 0, x.clearBuffer());
    }

    @Holds(in = "Terms", sentence = "At most 6 states are saved; the oldest one is dropped first.")
    static void sixStatesAreSavedAndTheSeventhDropsTheOldest() {
        SerialRecaps x = new SerialRecaps();
        for (int value = 5; value <= 10; value++) {
            x.set(0, value);
        }
        Checks.due("six", 6, x.count(6));
        x.set(0, 11);
        Checks.due("six still", 6, x.count(6));
        for (int value = 10; value >= 5; value--) {
            x.undo();
            Checks.due("setting(0)", value, x.setting(0));
        }
        Checks.due("none is left", IllegalStateException.class.getName(), Checks.outcome(x::undo));
    }

    @Holds(in = "Terms", sentence = "At most 6 states are saved; the oldest one is dropped first.")
    static void theOldestIsDroppedHoweverManyWereUndone() {
        for (int back = 0; back <= 6; back++) {
            SerialRecaps x = new SerialRecaps();
            for (int value = 0; value < 17; value++) {
                x.set(0, value);
            }
            for (int i = 0; i < back; i++) {
                x.undo();
            }
            Checks.due("after " + back, 16 - back, x.set(0, 19));
            int left = Math.min(6, 7 - back);
            Checks.due("saved states", left, x.count(6));
            Checks.due("undo()", left - 1, x.undo());
            Checks.due("setting(0)", 16 - back, x.setting(0));
            for (int i = left - 2; i >= 0; i--) {
                Checks.due("undo()", i, x.undo());
            }
            Checks.due("the oldest that is left", back == 0 ? 11 : 10, x.setting(0));
        }
    }

    // ---- exceptions

    @Holds(in = "Terms", sentence = "A call that throws an exception changes nothing.")
    static void refusedCallsLeaveAFullSerialAsItWas() {
        SerialRecaps x = Scenes.full();
        Refusals.Ask[] calls = {y -> y.add(1, NONE, 10), y -> y.change(20, 1, NONE), y -> y.change(19, 1, 1),
            y -> y.set(2, 1), y -> y.set(1, 0), y -> y.mail(6, 19), y -> y.mail(2, 19), y -> y.mailAll(20, 0),
            y -> y.mailAll(19, 64), y -> y.forget(6), y -> y.catchUp(6), y -> y.append('0'), y -> y.append(127),
            SerialRecaps::addAll, y -> y.part(20, 0), y -> y.part(19, 7), y -> y.knows(5, 20), y -> y.reader(5, 7),
            y -> y.plot(5, 4), y -> y.count(7), y -> y.setting(2), y -> y.recap(5, 20, 0), y -> y.recap(5, 19, 5),
            y -> y.easiest(6), y -> y.enough(6)};
        for (Refusals.Ask call : calls) {
            Checks.due("it throws", true, Checks.outcome(() -> call.of(x)) instanceof String);
        }
        Refusals.unchanged(Scenes::full, "all refused calls", x);
    }

    @Holds(in = "Terms", sentence = "A call that throws an exception changes nothing.")
    static void refusedCallsLeaveAnEmptySerialAsItWas() {
        SerialRecaps x = new SerialRecaps();
        Refusals.Ask[] calls = {y -> y.add(0, NONE, 10), y -> y.change(0, 1, NONE), SerialRecaps::removeLast,
            y -> y.set(-1, 1), y -> y.set(0, 20), y -> y.mail(0, 0), y -> y.mailAll(0, 0), y -> y.forget(-1),
            y -> y.catchUp(-1), y -> y.append(32), SerialRecaps::addAll, SerialRecaps::undo, y -> y.part(0, 0),
            y -> y.knows(0, 0), y -> y.reader(-1, 0), y -> y.plot(-1, 0), y -> y.count(-1), y -> y.setting(-1),
            y -> y.recap(0, 0, 0), y -> y.easiest(-1), y -> y.enough(-1)};
        for (Refusals.Ask call : calls) {
            Checks.due("it throws", true, Checks.outcome(() -> call.of(x)) instanceof String);
        }
        Refusals.unchanged(Scenes::empty, "all refused calls", x);
    }

    private static final String FIRST = "If several exceptions apply, the one that is named first in the throws clause";

    @Holds(in = "Terms", sentence = FIRST)
    static void aWrongIndexComesBeforeAWrongArgument() {
        Refusals.refusedWithoutSuchPart("change", (x, part) -> x.change(part, 0, 7));
        Refusals.refusedOutside(0, 1, Refusals.INDEX, "set", (x, setting) -> x.set(setting, -1));
        Refusals.refusedWithoutSuchPart("mailAll", (x, part) -> x.mailAll(part, 64));
        Refusals.refusedWithoutSuchPart("part", (x, part) -> x.part(part, 7));
        Refusals.refusedOutside(0, 5, Refusals.INDEX, "reader", (x, reader) -> x.reader(reader, 7));
        Refusals.refusedOutside(0, 5, Refusals.INDEX, "plot", (x, plot) -> x.plot(plot, 4));
        Refusals.refusedOutside(0, 5, Refusals.INDEX, "recap", (x, reader) -> x.recap(reader, 0, 5));
    }

    @Holds(in = "Terms", sentence = FIRST)
    static void aWrongArgumentComesBeforeAWrongState() {
        Refusals.refused(Scenes::full, Refusals.ARGUMENT, "add", x -> x.add(0, NONE, 10));
        Refusals.refused(Scenes::full, Refusals.ARGUMENT, "append", x -> x.append(32));
        Refusals.refused(Scenes::full, Refusals.ARGUMENT, "addAll", SerialRecaps::addAll);
    }

    @Holds(in = "Terms", sentence = "The constants: `NONE = -1`: There is nothing to return.")
    static void noneIsMinus1() {
        Checks.due("NONE", -1, SerialRecaps.NONE);
        SerialRecaps x = new SerialRecaps();
        x.add(1, -1, 10);
        Checks.due("a cliff", -1, x.part(0, 1));
        Checks.due("a latest part", -1, x.plot(1, 1));
        x.catchUp(0);
        Checks.due("an easiest part", -1, x.easiest(0));
    }

    // ---- nothing is changed

    @Holds(in = "Terms", sentence = "`setting` the interface says: ---- looks; nothing is changed.")
    static void looksChangeNothing() {
        SerialRecaps x = Scenes.busy();
        for (int what = 0; what <= 6; what++) {
            x.part(4, what);
            x.reader(3, what);
            x.count(what);
        }
        for (int what = 0; what <= 3; what++) {
            x.plot(0, what);
        }
        x.knows(5, 4);
        x.setting(1);
        Refusals.unchanged(Scenes::busy, "looks", x);
    }

    @Holds(in = "Terms", sentence = "`digest` the interface says: ---- what would be; nothing is changed.")
    static void whatWouldBeChangesNothing() {
        SerialRecaps x = Scenes.busy();
        for (int reader = 0; reader < 6; reader++) {
            for (int what = 0; what <= 4; what++) {
                x.recap(reader, 4, what);
            }
            x.easiest(reader);
            x.enough(reader);
        }
        x.readShare();
        x.digest();
        Refusals.unchanged(Scenes::busy, "what would be", x);
    }
}
