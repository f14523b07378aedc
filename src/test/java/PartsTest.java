/** Promises 1 to 5: a new object, add, change, removeLast, set. */
final class PartsTest {
    private static final int NONE = SerialRecaps.NONE;

    public static void main(String[] args) {
        Sentences.run(PartsTest.class);
    }

    private static void part(SerialRecaps x, int part, int... due) {
        for (int what = 0; what < due.length; what++) {
            Checks.due("part(" + part + ", " + what + ")", due[what], x.part(part, what));
        }
    }

    private static void knowledge(SerialRecaps x, int part, int due) {
        for (int reader = 0; reader < 6; reader++) {
            Checks.due("knows(" + reader + ", " + part + ")", due, x.knows(reader, part));
        }
    }

    // ---- 1: a new object

    @Holds(in = "Promise 1", sentence = "Creates a serial without parts")
    static void newSerialHasNoParts() {
        SerialRecaps x = new SerialRecaps();
        int[] counts = {0, 0, 0, 0, 0, 6, 0};
        for (int what = 0; what < counts.length; what++) {
            Checks.due("count(" + what + ")", counts[what], x.count(what));
        }
        for (int i = 0; i < 6; i++) {
            for (int what = 0; what <= 6; what++) {
                Checks.due("reader(" + i + ", " + what + ")", 0, x.reader(i, what));
            }
            for (int what = 0; what <= 3; what++) {
                Checks.due("plot(" + i + ", " + what + ")", what == 1 ? NONE : 0, x.plot(i, what));
            }
        }
        Checks.due("readShare()", 1.0, x.readShare());
        Refusals.refused(Scenes::empty, Refusals.INDEX, "part(0, 0)", y -> y.part(0, 0));
    }

    @Holds(in = "Promise 1", sentence = "with an empty buffer.")
    static void newBufferIsEmpty() {
        SerialRecaps x = new SerialRecaps();
        Checks.due("firstError()", 0, x.firstError());
        Checks.due("clearBuffer()", 0, x.clearBuffer());
        Refusals.refused(Scenes::empty, Refusals.ARGUMENT, "addAll()", SerialRecaps::addAll);
    }

    @Holds(in = "Promise 1", sentence = "Creates a serial without parts")
    static void newSerialHasNoSavedState() {
        Refusals.refused(Scenes::empty, Refusals.STATE, "undo()", SerialRecaps::undo);
    }

    @Holds(in = "Promise 1", sentence = "Creates a serial")
    static void serialsShareNothing() {
        SerialRecaps x = new SerialRecaps();
        long fresh = x.digest();
        Scenes.busy();
        Scenes.full();
        Checks.due("the first one", fresh, x.digest());
        Checks.due("a later one", fresh, new SerialRecaps().digest());
    }

    // ---- 2: add

    @Holds(in = "Promise 2", sentence = "Adds a part.")
    static void addedPartsStandAsTheyWereGiven() {
        SerialRecaps x = new SerialRecaps();
        x.add(1, NONE, 1);
        x.add(63, 5, 99);
        x.add(32, 5, 50);
        x.add(1, 0, 7);
        part(x, 0, 1, NONE, 1, 0);
        part(x, 1, 63, 5, 99, 1);
        part(x, 2, 32, 5, 50, 2);
        part(x, 3, 1, 0, 7, 2);
    }

    @Holds(in = "Promise 2", sentence = "Adds a part.")
    static void addedPartIsUnknownToAll() {
        SerialRecaps x = Scenes.parts(19);
        x.catchUp(0);
        x.add(1, 0, 1);
        knowledge(x, 19, 0);
    }

    @Holds(in = "Promise 2", sentence = "Undoable.")
    static void addIsUndone() {
        Saves.undone(Scenes::empty, "the first part", x -> x.add(4, 2, 9));
        Saves.undone(Scenes::calm, "add", x -> x.add(63, 5, 99));
    }

    @Holds(in = "Promise 2", sentence = "`plots`: the plots, as a mask, 1 to 63")
    static void addTakesAllPlots1To63() {
        for (int plots = 1; plots <= 63; plots++) {
            SerialRecaps x = new SerialRecaps();
            Checks.due("add(" + plots + ", ..)", 0, x.add(plots, NONE, 10));
            Checks.due("its plots", plots, x.part(0, 0));
        }
    }

    @Holds(in = "Promise 2", sentence = "Throws `IllegalArgumentException` if plots or words is out of range")
    static void addRefusesPlots0And64() {
        Refusals.refusedOutside(1, 63, Refusals.ARGUMENT, "add of plots", (x, plots) -> x.add(plots, NONE, 10));
        Refusals.refusedEverywhere(Refusals.ARGUMENT, "add(64, 0, 1)", x -> x.add(64, 0, 1));
        Refusals.refusedEverywhere(Refusals.ARGUMENT, "add(65, 0, 1)", x -> x.add(65, 0, 1));
        Refusals.refusedEverywhere(Refusals.ARGUMENT, "add(-1, 0, 1)", x -> x.add(-1, 0, 1));
    }

    @Holds(in = "Promise 2", sentence = "`cliff`: the plot of its cliff, NONE without one")
    static void addTakesNoCliffOrAnyOfItsPlots() {
        for (int plots = 1; plots <= 63; plots++) {
            for (int cliff = -1; cliff < 6; cliff++) {
                if (cliff == -1 || (plots >> cliff & 1) == 1) {
                    SerialRecaps x = new SerialRecaps();
                    Checks.due("add(" + plots + ", " + cliff + ", 10)", 0, x.add(plots, cliff, 10));
                    Checks.due("its cliff", cliff, x.part(0, 1));
                }
            }
        }
    }

    @Holds(in = "Promise 2", sentence = "or cliff is neither one of these plots nor NONE")
    static void addRefusesCliffsThatAreNotOfItsPlots() {
        for (int plots = 1; plots <= 63; plots++) {
            for (int cliff = 0; cliff < 6; cliff++) {
                if ((plots >> cliff & 1) == 0) {
                    int p = plots;
                    int c = cliff;
                    Refusals.refused(Scenes::empty, Refusals.ARGUMENT, "add(" + p + ", " + c + ", 10)",
                        x -> x.add(p, c, 10));
                }
            }
        }
    }

    @Holds(in = "Promise 2", sentence = "or cliff is neither one of these plots nor NONE")
    static void addRefusesCliffsMinus2And6() {
        Refusals.refusedOutside(-1, 5, Refusals.ARGUMENT, "add of a cliff", (x, cliff) -> x.add(63, cliff, 10));
        for (int cliff : new int[] {31, 32, 33, 64, -32, -31}) {
            Refusals.refusedEverywhere(Refusals.ARGUMENT, "add(63, " + cliff + ", 10)", x -> x.add(63, cliff, 10));
        }
    }

    @Holds(in = "Promise 2", sentence = "`words`: 1 to 99")
    static void addTakesWords1And99() {
        SerialRecaps x = new SerialRecaps();
        x.add(1, NONE, 1);
        x.add(1, NONE, 99);
        Checks.due("the fewest words", 1, x.part(0, 2));
        Checks.due("the most words", 99, x.part(1, 2));
    }

    @Holds(in = "Promise 2", sentence = "Throws `IllegalArgumentException` if plots or words is out of range")
    static void addRefusesWords0And100() {
        Refusals.refusedOutside(1, 99, Refusals.ARGUMENT, "add of words", (x, words) -> x.add(1, 0, words));
    }

    @Holds(in = "Promise 2", sentence = "Returns its number.")
    static void addReturns0FirstAnd19Last() {
        SerialRecaps x = new SerialRecaps();
        for (int part = 0; part < 20; part++) {
            Checks.due("add", part, x.add(2, NONE, 3));
        }
    }

    @Holds(in = "Promise 2", sentence = "Throws `IllegalStateException` if there are 20 parts")
    static void addRefusesThe21stPart() {
        Refusals.refused(Scenes::full, Refusals.STATE, "the 21st", x -> x.add(2, NONE, 3));
        Refusals.refused(() -> Scenes.parts(20), Refusals.STATE, "the 21st", x -> x.add(63, 5, 99));
    }

    @Holds(in = "Promise 2", sentence = "Throws `IllegalStateException` if there are 20 parts")
    static void addTakesThe20thPartAgainAfterRemoveLast() {
        SerialRecaps x = Scenes.full();
        x.removeLast();
        Checks.due("add", 19, x.add(2, NONE, 3));
        Checks.due("and then", IllegalStateException.class.getName(), Checks.outcome(() -> x.add(2, NONE, 3)));
    }

    @Holds(in = "Promise 2", sentence = "Throws `IllegalArgumentException` if plots or words is out of range")
    static void addThrowsForArgumentsFirst() {
        Refusals.refused(Scenes::full, Refusals.ARGUMENT, "plots, and 20 parts", x -> x.add(0, NONE, 3));
        Refusals.refused(Scenes::full, Refusals.ARGUMENT, "a cliff, and 20 parts", x -> x.add(2, 0, 3));
        Refusals.refused(Scenes::full, Refusals.ARGUMENT, "words, and 20 parts", x -> x.add(2, 1, 100));
    }

    // ---- 3: change

    @Holds(in = "Promise 3", sentence = "Changes a part; what readers know stays.")
    static void changeLeavesWordsAndKnowledge() {
        SerialRecaps x = Scenes.told("0w11;01!1;1;01!0");
        x.mail(2, 3);
        Checks.due("needs before", 6, x.part(3, 3));
        x.change(1, 4, 2);
        part(x, 1, 4, 2, 10, 0);
        Checks.due("needs of a later one", 5, x.part(3, 3));
        Checks.due("needs of the next one", 0, x.part(2, 3));
        for (int part = 0; part < 4; part++) {
            Checks.due("knows(2, " + part + ")", part == 3 ? 2 : 1, x.knows(2, part));
        }
        Checks.due("the cliff hangs at once", 5, x.reader(2, 3));
    }

    @Holds(in = "Promise 3", sentence = "Undoable.")
    static void changeIsUndone() {
        Saves.undone(Scenes::calm, "change", x -> x.change(1, 4, 2));
        Saves.undone(Scenes::calm, "change to what it is", x -> x.change(0, 1, 0));
    }

    @Holds(in = "Promise 3", sentence = "`part`: its number")
    static void changeTakesTheFirstAndTheLastOf20Parts() {
        SerialRecaps x = Scenes.parts(20);
        Checks.due("the first of 20", 1, x.change(0, 2, 1));
        Checks.due("the next needs none", 0, x.part(1, 3));
        Checks.due("the last of 20", 1, x.change(19, 3, 1));
        Checks.due("the last needs the first too", (1 << 18) + 1, x.part(19, 3));
    }

    @Holds(in = "Promise 3", sentence = "`part`: its number")
    static void changeTakesTheOnlyPart() {
        SerialRecaps x = Scenes.parts(1);
        Checks.due("change(0, ..)", 1, x.change(0, 63, 5));
        part(x, 0, 63, 5, 10, 0, 0, 0, 0);
    }

    @Holds(in = "Promise 3", sentence = "Throws `IndexOutOfBoundsException` if there is no such part")
    static void changeRefusesPartsThatAreNotThere() {
        Refusals.refusedWithoutSuchPart("change", (x, part) -> x.change(part, 1, NONE));
    }

    @Holds(in = "Promise 3", sentence = "`plots`: the plots, as a mask, 1 to 63")
    static void changeTakesAllPlots1To63() {
        SerialRecaps x = Scenes.parts(1);
        for (int plots = 1; plots <= 63; plots++) {
            x.change(0, plots, NONE);
            Checks.due("its plots", plots, x.part(0, 0));
        }
    }

    @Holds(in = "Promise 3", sentence = "Throws `IllegalArgumentException` if plots is out of range")
    static void changeRefusesPlots0And64() {
        for (int plots : Refusals.outside(1, 63)) {
            Refusals.refused(Scenes::busy, Refusals.ARGUMENT, "change(1, " + plots + ", NONE)",
                x -> x.change(1, plots, NONE));
            Refusals.refused(Scenes::full, Refusals.ARGUMENT, "change(19, " + plots + ", 0)",
                x -> x.change(19, plots, 0));
        }
    }

    @Holds(in = "Promise 3", sentence = "`cliff`: the plot of its cliff, NONE without one")
    static void changeTakesNoCliffOrAnyOfTheNewPlots() {
        for (int plots = 1; plots <= 63; plots++) {
            SerialRecaps x = Scenes.parts(1);
            for (int cliff = -1; cliff < 6; cliff++) {
                if (cliff == -1 || (plots >> cliff & 1) == 1) {
                    x.change(0, plots, cliff);
                    Checks.due("the cliff after change(0, " + plots + ", " + cliff + ")", cliff, x.part(0, 1));
                }
            }
        }
    }

    @Holds(in = "Promise 3", sentence = "or cliff is neither one of these plots nor NONE")
    static void changeRefusesCliffsThatAreNotOfTheNewPlots() {
        for (int cliff : new int[] {0, 2, 5, -2, 6, 31, 32, 33, -31, Integer.MIN_VALUE, Integer.MAX_VALUE}) {
            Refusals.refused(() -> Scenes.told("0"), Refusals.ARGUMENT, "change(0, 10, " + cliff + ")",
                x -> x.change(0, 10, cliff));
        }
        for (int cliff : Refusals.outside(-1, 5)) {
            Refusals.refused(Scenes::full, Refusals.ARGUMENT, "change(0, 63, " + cliff + ")",
                x -> x.change(0, 63, cliff));
        }
    }

    @Holds(in = "Promise 3", sentence = "Returns the plots that it had, as a mask.")
    static void changeReturns1And63() {
        SerialRecaps x = Scenes.told("0");
        Checks.due("the fewest plots", 1, x.change(0, 63, 5));
        Checks.due("the most plots", 63, x.change(0, 32, NONE));
        Checks.due("the last plot", 32, x.change(0, 32, NONE));
        Checks.due("the same plots", 32, x.change(0, 1, 0));
    }

    @Holds(in = "Promise 3", sentence = "Throws `IndexOutOfBoundsException` if there is no such part")
    static void changeThrowsForThePartFirst() {
        Refusals.refusedWithoutSuchPart("change to plots 0", (x, part) -> x.change(part, 0, NONE));
        Refusals.refusedWithoutSuchPart("change to cliff 1 of plot 0", (x, part) -> x.change(part, 1, 1));
    }

    // ---- 4: removeLast

    @Holds(in = "Promise 4", sentence = "Removes the last part.")
    static void removeLastLeavesWhatIsCountedSoFar() {
        SerialRecaps x = Scenes.told("0;0!0;0");
        x.mailAll(2, 9);
        x.mail(1, 1);
        Checks.due("removeLast()", 4, x.removeLast());
        Checks.due("parts", 2, x.count(0));
        Checks.due("words so far", 58, x.count(4));
        Checks.due("reader's words", 22, x.reader(1, 4));
        Checks.due("mails so far", 5, x.count(2));
        Checks.due("it hangs again", 4, x.plot(0, 3));
        Checks.due("read", 1, x.reader(1, 0));
        Checks.due("told", 2, x.reader(2, 1));
    }

    @Holds(in = "Promise 4", sentence = "Removes the last part.")
    static void removeLastTakesTheOnlyPartAndThe20th() {
        SerialRecaps x = Scenes.parts(1);
        x.removeLast();
        Checks.due("parts", 0, x.count(0));
        Checks.due("easiest(0)", NONE, x.easiest(0));
        SerialRecaps y = Scenes.full();
        y.removeLast();
        Checks.due("parts", 19, y.count(0));
        Checks.due("the latest of plot 0", 18, y.plot(0, 1));
    }

    @Holds(in = "Promise 4", sentence = "Removes the last part.")
    static void theNumberComesAgainUnknown() {
        SerialRecaps x = Scenes.told("0;01;1");
        x.mail(0, 2);
        x.mail(1, 1);
        x.removeLast();
        x.removeLast();
        x.add(1, NONE, 4);
        x.add(1, NONE, 4);
        for (int part = 1; part < 3; part++) {
            knowledge(x, part, 0);
            Checks.due("who has read it", 0, x.part(part, 5));
        }
    }

    @Holds(in = "Promise 4", sentence = "Undoable.")
    static void removeLastIsUndone() {
        Saves.undone(Scenes::calm, "removeLast", SerialRecaps::removeLast);
        Saves.undone(() -> Scenes.parts(1), "removeLast of the only part", SerialRecaps::removeLast);
        SerialRecaps x = Scenes.told("0;0!0;0");
        x.mailAll(2, 9);
        x.removeLast();
        x.removeLast();
        x.removeLast();
        Checks.due("undo()", 4, x.undo());
        x.undo();
        x.undo();
        Checks.due("read again", 54, x.part(2, 5));
        Checks.due("told again", 1, x.knows(1, 1));
    }

    @Holds(in = "Promise 4", sentence = "Returns how many readers had read it.")
    static void removeLastReturns0To6() {
        for (int readers = 0; readers <= 6; readers++) {
            SerialRecaps x = Scenes.parts(20);
            x.mailAll(19, 63 & 63 << readers);
            Checks.due("readers", readers, x.removeLast());
            Checks.due("readers who were told", 0, x.removeLast());
        }
    }

    @Holds(in = "Promise 4", sentence = "Throws `IllegalStateException` if there are no parts")
    static void removeLastRefusesWithoutParts() {
        Refusals.refused(Scenes::empty, Refusals.STATE, "new", SerialRecaps::removeLast);
        Refusals.refused(() -> removed(1), Refusals.STATE, "one removed", SerialRecaps::removeLast);
        Refusals.refused(() -> removed(20), Refusals.STATE, "20 removed", SerialRecaps::removeLast);
    }

    private static SerialRecaps removed(int parts) {
        SerialRecaps x = Scenes.parts(parts);
        for (int part = 0; part < parts; part++) {
            x.removeLast();
        }
        return x;
    }

    // ---- 5: set

    @Holds(in = "Promise 5", sentence = "Changes a setting.")
    static void setChangesItsSettingAlone() {
        SerialRecaps x = new SerialRecaps();
        x.set(0, 7);
        Checks.due("setting(0)", 7, x.setting(0));
        Checks.due("setting(1)", 10, x.setting(1));
        x.set(1, 3);
        Checks.due("setting(0)", 7, x.setting(0));
        Checks.due("setting(1)", 3, x.setting(1));
    }

    @Holds(in = "Promise 5", sentence = "Undoable.")
    static void setIsUndone() {
        Saves.undone(Scenes::calm, "set(0, 0)", x -> x.set(0, 0));
        Saves.undone(Scenes::empty, "set(1, 20)", x -> x.set(1, 20));
        Saves.undone(Scenes::empty, "set to what it is", x -> x.set(0, 4));
    }

    @Holds(in = "Promise 5", sentence = "`setting`: 0 or 1")
    static void setTakesSettings0And1() {
        SerialRecaps x = new SerialRecaps();
        Checks.due("set(0, 5)", 4, x.set(0, 5));
        Checks.due("set(1, 5)", 10, x.set(1, 5));
    }

    @Holds(in = "Promise 5", sentence = "Throws `IndexOutOfBoundsException` if there is no such setting")
    static void setRefusesSettingsMinus1And2() {
        Refusals.refusedOutside(0, 1, Refusals.INDEX, "set", (x, setting) -> x.set(setting, 1));
    }

    @Holds(in = "Promise 5", sentence = "`value`: the new value")
    static void setTakesEachValueOfItsRange() {
        SerialRecaps x = new SerialRecaps();
        for (int value = 0; value <= 19; value++) {
            x.set(0, value);
            Checks.due("setting(0)", value, x.setting(0));
        }
        for (int value = 1; value <= 20; value++) {
            x.set(1, value);
            Checks.due("setting(1)", value, x.setting(1));
        }
    }

    @Holds(in = "Promise 5", sentence = "Throws `IllegalArgumentException` if value is out of range")
    static void setRefusesMinus1And20OfSetting0() {
        Refusals.refusedOutside(0, 19, Refusals.ARGUMENT, "set(0, ..)", (x, value) -> x.set(0, value));
    }

    @Holds(in = "Promise 5", sentence = "Throws `IllegalArgumentException` if value is out of range")
    static void setRefuses0And21OfSetting1() {
        Refusals.refusedOutside(1, 20, Refusals.ARGUMENT, "set(1, ..)", (x, value) -> x.set(1, value));
        Refusals.refusedEverywhere(Refusals.ARGUMENT, "set(1, -1)", x -> x.set(1, -1));
    }

    @Holds(in = "Promise 5", sentence = "Returns the previous value.")
    static void setReturnsTheLeastAndTheGreatestValue() {
        SerialRecaps x = new SerialRecaps();
        Checks.due("set(0, 0)", 4, x.set(0, 0));
        Checks.due("set(0, 19)", 0, x.set(0, 19));
        Checks.due("set(0, 19)", 19, x.set(0, 19));
        Checks.due("set(1, 1)", 10, x.set(1, 1));
        Checks.due("set(1, 20)", 1, x.set(1, 20));
        Checks.due("set(1, 20)", 20, x.set(1, 20));
    }

    @Holds(in = "Promise 5", sentence = "Throws `IndexOutOfBoundsException` if there is no such setting")
    static void setThrowsForTheSettingFirst() {
        Refusals.refusedOutside(0, 1, Refusals.INDEX, "set to -1", (x, setting) -> x.set(setting, -1));
        Refusals.refusedOutside(0, 1, Refusals.INDEX, "set to 21", (x, setting) -> x.set(setting, 21));
    }
}
