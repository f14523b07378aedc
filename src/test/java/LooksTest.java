/** Promises 15 to 20: part, knows, reader, plot, count, setting. */
final class LooksTest {
    private static final int NONE = SerialRecaps.NONE;

    public static void main(String[] args) {
        Sentences.run(LooksTest.class);
    }

    // ---- 15: part

    @Holds(in = "Promise 15", sentence = "Returns a property of a part.")
    static void partTellsAllProperties() {
        SerialRecaps x = Scenes.told("0!0w3;1;01;2;02;1");
        x.mailAll(2, 6);
        int[][] due = {{1, 0, 3, 0, 1, 0, 0}, {2, -1, 10, 0, 1, 0, 0}, {3, -1, 10, 3, 2, 57, 2},
            {4, -1, 10, 0, 1, 0, 0}, {5, -1, 10, 12, 0, 0, 4}, {2, -1, 10, 4, 0, 0, 3}};
        for (int part = 0; part < due.length; part++) {
            for (int what = 0; what <= 6; what++) {
                Checks.due("part(" + part + ", " + what + ")", due[part][what], x.part(part, what));
            }
        }
    }

    @Holds(in = "Promise 15", sentence = "`part`: its number")
    static void partTakesTheFirstAndTheLastOf20Parts() {
        SerialRecaps x = Scenes.parts(19);
        x.add(6, 2, 77);
        Checks.due("part(0, 2)", 10, x.part(0, 2));
        Checks.due("part(19, 2)", 77, x.part(19, 2));
    }

    @Holds(in = "Promise 15", sentence = "Throws `IndexOutOfBoundsException` if there is no such part")
    static void partRefusesPartsThatAreNotThere() {
        for (int what = 0; what <= 6; what++) {
            int w = what;
            Refusals.refusedWithoutSuchPart("part(.., " + w + ")", (x, part) -> x.part(part, w));
        }
    }

    @Holds(in = "Promise 15", sentence = "0: its plots, as a mask")
    static void partTellsPlots1And63() {
        SerialRecaps x = Scenes.told("0;012345;5");
        Checks.due("the first plot alone", 1, x.part(0, 0));
        Checks.due("all plots", 63, x.part(1, 0));
        Checks.due("the last plot alone", 32, x.part(2, 0));
    }

    @Holds(in = "Promise 15", sentence = "1: the plot of its cliff, NONE without one")
    static void partTellsCliffs0And5AndNone() {
        SerialRecaps x = Scenes.told("05!0;05!5;05");
        Checks.due("the first plot", 0, x.part(0, 1));
        Checks.due("the last plot", 5, x.part(1, 1));
        Checks.due("without one", NONE, x.part(2, 1));
    }

    @Holds(in = "Promise 15", sentence = "2: its words")
    static void partTellsWords1And99() {
        SerialRecaps x = Scenes.told("0w1;0w99;0");
        Checks.due("the fewest", 1, x.part(0, 2));
        Checks.due("the most", 99, x.part(1, 2));
        Checks.due("untold", 10, x.part(2, 2));
    }

    @Holds(in = "Promise 15", sentence = "3: the parts that it needs, as a mask of their numbers")
    static void partTellsNoneOneAndSixNeeds() {
        SerialRecaps x = Scenes.parts(14);
        for (int plot = 1; plot < 6; plot++) {
            x.add(1 << plot, NONE, 10);
        }
        x.add(63, 0, 10);
        Checks.due("of the first", 0, x.part(0, 3));
        Checks.due("of the second", 1, x.part(1, 3));
        Checks.due("of the last of 20", 63 << 13, x.part(19, 3));
    }

    @Holds(in = "Promise 15", sentence = "4: parts that need it")
    static void partTellsHowManyNeedIt() {
        SerialRecaps x = Scenes.told("012345;0;1;2;3;4;5;012345;0");
        Checks.due("most: one for each plot", 6, x.part(0, 4));
        Checks.due("one", 1, x.part(1, 4));
        Checks.due("one again", 1, x.part(7, 4));
        Checks.due("the last", 0, x.part(8, 4));
        Checks.due("the only one", 0, Scenes.parts(1).part(0, 4));
    }

    @Holds(in = "Promise 15", sentence = "5: readers who have read it, as a mask")
    static void partTellsNoReaderAndAllReaders() {
        SerialRecaps x = Scenes.parts(3);
        x.mailAll(2, 0);
        x.mail(5, 0);
        Checks.due("all", 63, x.part(2, 5));
        Checks.due("told is not read", 0, x.part(1, 5));
        Checks.due("the last reader", 32, x.part(0, 5));
    }

    @Holds(in = "Promise 15", sentence = "6: all parts that it needs, and those that these need, and so on, how many")
    static void partTells0To19Needs() {
        SerialRecaps x = Scenes.parts(20);
        for (int part = 0; part < 20; part++) {
            Checks.due("all that " + part + " needs", part, x.part(part, 6));
        }
        x.catchUp(0);
        Checks.due("whatever is read", 19, x.part(19, 6));
        Checks.due("each once", 3, Scenes.told("01;0;1;01").part(3, 6));
    }

    @Holds(in = "Promise 15", sentence = "Throws `IllegalArgumentException` if what is not 0 to 6")
    static void partRefusesWhatMinus1And7() {
        for (int what : Refusals.outside(0, 6)) {
            Refusals.refused(Scenes::busy, Refusals.ARGUMENT, "part(0, " + what + ")", x -> x.part(0, what));
            Refusals.refused(Scenes::full, Refusals.ARGUMENT, "part(19, " + what + ")", x -> x.part(19, what));
        }
    }

    @Holds(in = "Promise 15", sentence = "Throws `IndexOutOfBoundsException` if there is no such part")
    static void partThrowsForThePartFirst() {
        Refusals.refusedWithoutSuchPart("part(.., -1)", (x, part) -> x.part(part, -1));
        Refusals.refusedWithoutSuchPart("part(.., 7)", (x, part) -> x.part(part, 7));
    }

    // ---- 16: knows

    @Holds(in = "Promise 16", sentence = "Tells what a part is to a reader.")
    static void knowsTellsEachReaderHisOwn() {
        SerialRecaps x = Scenes.parts(2);
        x.mail(3, 1);
        for (int reader = 0; reader < 6; reader++) {
            Checks.due("knows(" + reader + ", 0)", reader == 3 ? 1 : 0, x.knows(reader, 0));
            Checks.due("knows(" + reader + ", 1)", reader == 3 ? 2 : 0, x.knows(reader, 1));
        }
    }

    @Holds(in = "Promise 16", sentence = "Returns 0 to 2.")
    static void knowsReturns0And1And2() {
        SerialRecaps x = Scenes.parts(3);
        x.set(0, 1);
        x.mail(0, 2);
        Checks.due("left out", 0, x.knows(0, 0));
        Checks.due("told", 1, x.knows(0, 1));
        Checks.due("read", 2, x.knows(0, 2));
    }

    @Holds(in = "Promise 16", sentence = "`reader`: 0 to 5")
    static void knowsTakesReaders0And5() {
        SerialRecaps x = Scenes.parts(1);
        x.mailAll(0, 30);
        Checks.due("knows(0, 0)", 2, x.knows(0, 0));
        Checks.due("knows(5, 0)", 2, x.knows(5, 0));
        Checks.due("knows(1, 0)", 0, x.knows(1, 0));
        Checks.due("knows(4, 0)", 0, x.knows(4, 0));
    }

    @Holds(in = "Promise 16", sentence = "`part`: its number")
    static void knowsTakesTheFirstAndTheLastOf20Parts() {
        SerialRecaps x = Scenes.parts(20);
        x.mail(1, 19);
        x.mail(1, 0);
        Checks.due("knows(1, 0)", 2, x.knows(1, 0));
        Checks.due("knows(1, 19)", 2, x.knows(1, 19));
    }

    @Holds(in = "Promise 16", sentence = "Throws `IndexOutOfBoundsException` if there is no such reader or part")
    static void knowsRefusesReadersAndPartsThatAreNotThere() {
        Refusals.refusedOutside(0, 5, Refusals.INDEX, "knows(.., 0)", (x, reader) -> x.knows(reader, 0));
        Refusals.refusedWithoutSuchPart("knows(0, ..)", (x, part) -> x.knows(0, part));
        Refusals.refusedWithoutSuchPart("knows(5, ..)", (x, part) -> x.knows(5, part));
        Refusals.refusedWithoutSuchPart("knows(6, ..)", (x, part) -> x.knows(6, part));
    }

    // ---- 17: reader

    @Holds(in = "Promise 17", sentence = "Returns a property of a reader.")
    static void readerTellsAllProperties() {
        SerialRecaps x = Scenes.told("0w30;0w31;0w32;1w9;0w40");
        x.set(0, 2);
        x.mail(2, 4);
        x.mail(2, 3);
        x.forget(2);
        x.set(0, 0);
        x.mail(2, 2);
        int[] due = {3, 0, 2, 0, 40 + 4 + 4 + 9 + 32, 2, 1 + 2};
        for (int what = 0; what <= 6; what++) {
            Checks.due("reader(2, " + what + ")", due[what], x.reader(2, what));
            Checks.due("reader(1, " + what + ")", what == 2 ? 5 : 0, x.reader(1, what));
        }
    }

    @Holds(in = "Promise 17", sentence = "`reader`: 0 to 5")
    static void readerTakesReaders0And5() {
        SerialRecaps x = Scenes.parts(1);
        x.mail(5, 0);
        Checks.due("reader(0, 0)", 0, x.reader(0, 0));
        Checks.due("reader(5, 0)", 1, x.reader(5, 0));
    }

    @Holds(in = "Promise 17", sentence = "Throws `IndexOutOfBoundsException` if there is no such reader")
    static void readerRefusesReadersMinus1And6() {
        for (int what = 0; what <= 6; what++) {
            int w = what;
            Refusals.refusedOutside(0, 5, Refusals.INDEX, "reader(.., " + w + ")", (x, reader) -> x.reader(reader, w));
        }
    }

    private static void kinds(SerialRecaps x, int read, int told, int unknown) {
        Checks.due("read", read, x.reader(0, 0));
        Checks.due("told", told, x.reader(0, 1));
        Checks.due("unknown", unknown, x.reader(0, 2));
    }

    @Holds(in = "Promise 17", sentence = "0: parts that are read; 1: told; 2: unknown")
    static void readerTellsNoneAndAllOf20Parts() {
        kinds(new SerialRecaps(), 0, 0, 0);
        SerialRecaps x = Scenes.parts(20);
        kinds(x, 0, 0, 20);
        x.mail(0, 0);
        kinds(x, 1, 0, 19);
        x.set(0, 19);
        x.mail(0, 19);
        kinds(x, 2, 18, 0);
        x.catchUp(0);
        kinds(x, 20, 0, 0);
        x.undo();
        x.forget(0);
        kinds(x, 2, 0, 18);
        x.undo();
        x.undo();
        x.undo();
        x.undo();
        x.set(0, 19);
        x.mail(0, 19);
        kinds(x, 1, 19, 0);
    }

    @Holds(in = "Promise 17", sentence = "3: plots whose cliffs are open to the reader, as a mask")
    static void readerTellsNoOpenCliffAndAllSix() {
        SerialRecaps x = Scenes.told("0!0;1!1;2!2;3!3;4!4;5!5");
        Checks.due("none is known", 0, x.reader(0, 3));
        x.catchUp(0);
        Checks.due("all", 63, x.reader(0, 3));
        x.add(63, NONE, 1);
        Checks.due("all, for the next is not known", 63, x.reader(0, 3));
        x.mail(0, 6);
        Checks.due("none is open", 0, x.reader(0, 3));
        Checks.due("without parts", 0, new SerialRecaps().reader(5, 3));
    }

    @Holds(in = "Promise 17", sentence = "4: words that were read so far")
    static void readerTellsTheFewestAndTheMostWords() {
        SerialRecaps x = new SerialRecaps();
        x.add(1, NONE, 1);
        x.mail(0, 0);
        Checks.due("one word", 1, x.reader(0, 4));
        SerialRecaps y = new SerialRecaps();
        for (int part = 0; part < 20; part++) {
            y.add(1, NONE, 99);
        }
        y.set(0, 19);
        y.set(1, 1);
        y.mail(5, 19);
        Checks.due("the most by one mail", 20 * 99, y.reader(5, 4));
        y.catchUp(5);
        Checks.due("and what was told is read", 39 * 99, y.reader(5, 4));
        y.removeLast();
        Checks.due("and stays", 39 * 99, y.reader(5, 4));
    }

    @Holds(in = "Promise 17", sentence = "5: lines that were told so far; 6: parts that were left out of recaps so far")
    static void readerTells0And19LinesAndPartsLeftOut() {
        SerialRecaps x = Scenes.parts(20);
        x.set(0, 19);
        x.mail(0, 19);
        Checks.due("all lines", 19, x.reader(0, 5));
        Checks.due("none left out", 0, x.reader(0, 6));
        x.set(0, 0);
        x.mail(1, 19);
        Checks.due("no lines", 0, x.reader(1, 5));
        Checks.due("all left out", 19, x.reader(1, 6));
    }

    @Holds(in = "Promise 17", sentence = "each time")
    static void readerTellsWhatIsLeftOutEachTime() {
        SerialRecaps x = Scenes.told("0;0;01;1");
        x.set(0, 0);
        x.mail(0, 1);
        Checks.due("one", 1, x.reader(0, 6));
        x.mail(0, 3);
        Checks.due("one more, and not beyond what is read", 2, x.reader(0, 6));
        x.mail(0, 2);
        Checks.due("nothing is left out", 2, x.reader(0, 6));
        SerialRecaps y = Scenes.told("0;01;1");
        y.set(0, 0);
        y.mail(0, 2);
        y.mail(0, 1);
        Checks.due("the first part twice", 3, y.reader(0, 6));
    }

    @Holds(in = "Promise 17", sentence = "Throws `IllegalArgumentException` if what is not 0 to 6")
    static void readerRefusesWhatMinus1And7() {
        Refusals.refusedOutside(0, 6, Refusals.ARGUMENT, "reader(0, ..)", (x, what) -> x.reader(0, what));
        Refusals.refusedOutside(0, 6, Refusals.ARGUMENT, "reader(5, ..)", (x, what) -> x.reader(5, what));
    }

    @Holds(in = "Promise 17", sentence = "Throws `IndexOutOfBoundsException` if there is no such reader")
    static void readerThrowsForTheReaderFirst() {
        Refusals.refusedOutside(0, 5, Refusals.INDEX, "reader(.., -1)", (x, reader) -> x.reader(reader, -1));
        Refusals.refusedOutside(0, 5, Refusals.INDEX, "reader(.., 7)", (x, reader) -> x.reader(reader, 7));
    }

    // ---- 18: plot

    @Holds(in = "Promise 18", sentence = "Returns a property of a plot.")
    static void plotTellsAllProperties() {
        SerialRecaps x = Scenes.told("01!1;1!1;15;013!3");
        int[][] due = {{2, 3, 0, 0}, {4, 3, 2, 0}, {0, -1, 0, 0}, {1, 3, 1, 6}, {0, -1, 0, 0}, {1, 2, 0, 0}};
        x.mailAll(3, 0);
        for (int plot = 0; plot < 6; plot++) {
            for (int what = 0; what <= 3; what++) {
                Checks.due("plot(" + plot + ", " + what + ")", due[plot][what], x.plot(plot, what));
            }
        }
        x.removeLast();
        Checks.due("the latest then", 2, x.plot(1, 1));
        Checks.due("none then", NONE, x.plot(3, 1));
    }

    @Holds(in = "Promise 18", sentence = "`plot`: 0 to 5")
    static void plotTakesPlots0And5() {
        SerialRecaps x = Scenes.told("0;5;5");
        Checks.due("plot(0, 0)", 1, x.plot(0, 0));
        Checks.due("plot(5, 0)", 2, x.plot(5, 0));
    }

    @Holds(in = "Promise 18", sentence = "Throws `IndexOutOfBoundsException` if there is no such plot")
    static void plotRefusesPlotsMinus1And6() {
        for (int what = 0; what <= 3; what++) {
            int w = what;
            Refusals.refusedOutside(0, 5, Refusals.INDEX, "plot(.., " + w + ")", (x, plot) -> x.plot(plot, w));
        }
    }

    @Holds(in = "Promise 18", sentence = "0: parts that go on with it")
    static void plotTellsNoPartAnd20Parts() {
        Checks.due("without parts", 0, new SerialRecaps().plot(0, 0));
        Checks.due("all", 20, Scenes.parts(20).plot(0, 0));
        Checks.due("none of 20", 0, Scenes.parts(20).plot(5, 0));
    }

    @Holds(in = "Promise 18", sentence = "1: the latest one, NONE without one")
    static void plotTellsLatest0And19AndNone() {
        Checks.due("without parts", NONE, new SerialRecaps().plot(5, 1));
        Checks.due("the only one", 0, Scenes.parts(1).plot(0, 1));
        Checks.due("the last of 20", 19, Scenes.parts(20).plot(0, 1));
        Checks.due("none of 20", NONE, Scenes.parts(20).plot(1, 1));
        SerialRecaps x = Scenes.parts(20);
        x.change(0, 2, NONE);
        Checks.due("the first of 20", 0, x.plot(1, 1));
    }

    @Holds(in = "Promise 18", sentence = "2: cliffs of it")
    static void plotTellsNoCliffAnd20Cliffs() {
        SerialRecaps x = new SerialRecaps();
        Checks.due("without parts", 0, x.plot(0, 2));
        for (int part = 0; part < 20; part++) {
            x.add(33, 5, 10);
        }
        Checks.due("all", 20, x.plot(5, 2));
        Checks.due("none", 0, x.plot(0, 2));
    }

    @Holds(in = "Promise 18", sentence = "3: readers to whom a cliff of it is open")
    static void plotTellsNoReaderAndSixReaders() {
        SerialRecaps x = Scenes.told("0!0;0!0;5!5");
        Checks.due("without a mail", 0, x.plot(0, 3));
        x.mailAll(0, 0);
        x.mailAll(1, 0);
        Checks.due("each once", 6, x.plot(0, 3));
        x.mail(5, 2);
        Checks.due("the last reader", 1, x.plot(5, 3));
        x.add(1, NONE, 10);
        x.mailAll(3, 32);
        Checks.due("but one", 1, x.plot(0, 3));
    }

    @Holds(in = "Promise 18", sentence = "Throws `IllegalArgumentException` if what is not 0 to 3")
    static void plotRefusesWhatMinus1And4() {
        Refusals.refusedOutside(0, 3, Refusals.ARGUMENT, "plot(0, ..)", (x, what) -> x.plot(0, what));
        Refusals.refusedOutside(0, 3, Refusals.ARGUMENT, "plot(5, ..)", (x, what) -> x.plot(5, what));
    }

    @Holds(in = "Promise 18", sentence = "Throws `IndexOutOfBoundsException` if there is no such plot")
    static void plotThrowsForThePlotFirst() {
        Refusals.refusedOutside(0, 5, Refusals.INDEX, "plot(.., -1)", (x, plot) -> x.plot(plot, -1));
        Refusals.refusedOutside(0, 5, Refusals.INDEX, "plot(.., 4)", (x, plot) -> x.plot(plot, 4));
    }

    // ---- 19: count

    @Holds(in = "Promise 19", sentence = "Returns a number.")
    static void countTellsAllNumbers() {
        SerialRecaps x = Scenes.told("0w30;0w31;1w9");
        x.mailAll(1, 6);
        x.mail(0, 2);
        x.mail(3, 0);
        x.catchUp(5);
        int[] due = {3, 70, 4 + 1 + 1 + 2, 2, 4 * 34 + 9 + 30 + 39, 2, 5};
        for (int what = 0; what <= 6; what++) {
            Checks.due("count(" + what + ")", due[what], x.count(what));
        }
    }

    @Holds(in = "Promise 19", sentence = "0: parts; 1: the sum of their words")
    static void countTells0And20PartsAndTheirWords() {
        SerialRecaps x = new SerialRecaps();
        Checks.due("no parts", 0, x.count(0));
        Checks.due("no words", 0, x.count(1));
        for (int part = 0; part < 20; part++) {
            x.add(1, NONE, 99);
        }
        Checks.due("most parts", 20, x.count(0));
        Checks.due("most words", 1980, x.count(1));
        Checks.due("fewest words", 1, Scenes.told("0w1").count(1));
    }

    @Holds(in = "Promise 19", sentence = "2: mails that reached readers so far; 3: mails that were lost so far")
    static void countTellsMails() {
        SerialRecaps x = Scenes.parts(20);
        Checks.due("none reached", 0, x.count(2));
        Checks.due("none lost", 0, x.count(3));
        for (int part = 0; part < 20; part++) {
            x.mailAll(part, 63);
        }
        Checks.due("still none reached", 0, x.count(2));
        Checks.due("all lost", 120, x.count(3));
        for (int reader = 0; reader < 6; reader++) {
            x.catchUp(reader);
        }
        Checks.due("all reached", 120, x.count(2));
        Checks.due("as many lost", 120, x.count(3));
        x.removeLast();
        Checks.due("reached, of parts that are gone too", 120, x.count(2));
    }

    @Holds(in = "Promise 19", sentence = "4: words that were read so far, by all")
    static void countTellsTheWordsOfAllReaders() {
        SerialRecaps x = Scenes.told("0w1;0w99");
        Checks.due("none", 0, x.count(4));
        x.mail(5, 0);
        Checks.due("one", 1, x.count(4));
        x.mailAll(1, 0);
        Checks.due("all", 1 + 6 * 99 + 5, x.count(4));
        x.removeLast();
        Checks.due("of parts that are gone too", 1 + 6 * 99 + 5, x.count(4));
    }

    @Holds(in = "Promise 19", sentence = "5: readers who know all parts (told or read)")
    static void countTells0And6ReadersWhoKnowAll() {
        SerialRecaps x = new SerialRecaps();
        Checks.due("without parts", 6, x.count(5));
        x.add(1, NONE, 10);
        Checks.due("with an unknown one", 0, x.count(5));
        x.add(1, NONE, 10);
        x.mail(0, 1);
        Checks.due("told or read", 1, x.count(5));
        x.mail(1, 0);
        Checks.due("but one", 1, x.count(5));
        x.mailAll(1, 0);
        Checks.due("all", 6, x.count(5));
        x.forget(5);
        Checks.due("one forgets", 5, x.count(5));
        SerialRecaps y = Scenes.parts(20);
        y.set(0, 19);
        y.mailAll(19, 0);
        Checks.due("of 20 parts", 6, y.count(5));
    }

    @Holds(in = "Promise 19", sentence = "6: saved states")
    static void countTells0To6SavedStates() {
        SerialRecaps x = new SerialRecaps();
        for (int saved = 0; saved < 9; saved++) {
            Checks.due("saved states", Math.min(6, saved), x.count(6));
            x.set(0, saved);
        }
    }

    @Holds(in = "Promise 19", sentence = "Throws `IllegalArgumentException` if what is not 0 to 6")
    static void countRefusesWhatMinus1And7() {
        Refusals.refusedOutside(0, 6, Refusals.ARGUMENT, "count", (x, what) -> x.count(what));
    }

    // ---- 20: setting

    @Holds(in = "Promise 20", sentence = "Returns a setting.")
    static void settingTellsEachOfTheTwo() {
        SerialRecaps x = new SerialRecaps();
        Checks.due("setting(0)", 4, x.setting(0));
        Checks.due("setting(1)", 10, x.setting(1));
    }

    @Holds(in = "Promise 20", sentence = "Returns its value.")
    static void settingReturnsTheLeastAndTheGreatestValue() {
        SerialRecaps x = new SerialRecaps();
        x.set(0, 0);
        x.set(1, 20);
        Checks.due("setting(0)", 0, x.setting(0));
        Checks.due("setting(1)", 20, x.setting(1));
        x.set(0, 19);
        x.set(1, 1);
        Checks.due("setting(0)", 19, x.setting(0));
        Checks.due("setting(1)", 1, x.setting(1));
    }

    @Holds(in = "Promise 20", sentence = "`setting`: 0 or 1")
    static void settingTakes0And1() {
        SerialRecaps x = Scenes.full();
        Checks.due("setting(0)", 4, x.setting(0));
        Checks.due("setting(1)", 3, x.setting(1));
    }

    @Holds(in = "Promise 20", sentence = "Throws `IndexOutOfBoundsException` if there is no such setting")
    static void settingRefusesMinus1And2() {
        Refusals.refusedOutside(0, 1, Refusals.INDEX, "setting", (x, setting) -> x.setting(setting));
    }
}
