import java.math.BigInteger;

/** Promises 21 to 25: recap, easiest, enough, readShare, digest. */
final class RecapsTest {
    private static final int NONE = SerialRecaps.NONE;

    public static void main(String[] args) {
        Sentences.run(RecapsTest.class);
    }

    private static void recap(SerialRecaps x, int reader, int part, int... due) {
        for (int what = 0; what <= 4; what++) {
            Checks.due("recap(" + reader + ", " + part + ", " + what + ")", due[what], x.recap(reader, part, what));
        }
    }

    // ---- 21: recap

    @Holds(in = "Promise 21", sentence = "Tells about the recap of a part for a reader.")
    static void recapFollowsSettingsAndKnowledge() {
        SerialRecaps x = Scenes.told("0w11;0w20;1w99;0w21;01w5;2");
        recap(x, 3, 4, 4, 2 + 2 + 10 + 3, 15, 0, 22);
        recap(x, 3, 0, 0, 0, 0, 0, 11);
        recap(x, 3, 5, 0, 0, 0, 0, 10);
        recap(x, 3, 3, 2, 4, 3, 0, 25);
        x.set(0, 3);
        recap(x, 3, 4, 3, 15, 14, 1, 20);
        x.set(0, 1);
        recap(x, 3, 4, 1, 3, 8, 3, 8);
        x.set(0, 0);
        recap(x, 3, 4, 0, 0, 0, 4, 5);
        x.set(0, 19);
        x.mail(3, 1);
        recap(x, 3, 4, 2, 13, 12, 0, 18);
        recap(x, 2, 4, 4, 17, 15, 0, 22);
    }

    @Holds(in = "Promise 21", sentence = "`reader`: 0 to 5")
    static void recapTakesReaders0And5() {
        SerialRecaps x = Scenes.parts(3);
        x.mail(0, 1);
        recap(x, 0, 2, 0, 0, 0, 0, 10);
        recap(x, 5, 2, 2, 2, 3, 0, 12);
    }

    @Holds(in = "Promise 21", sentence = "`part`: its number")
    static void recapTakesTheFirstAndTheLastOf20Parts() {
        SerialRecaps x = Scenes.parts(20);
        recap(x, 1, 0, 0, 0, 0, 0, 10);
        recap(x, 1, 19, 4, 4, 15 << 15, 15, 14);
    }

    @Holds(in = "Promise 21", sentence = "Throws `IndexOutOfBoundsException` if there is no such reader or part")
    static void recapRefusesReadersAndPartsThatAreNotThere() {
        Refusals.refusedOutside(0, 5, Refusals.INDEX, "recap(.., 0, 0)", (x, reader) -> x.recap(reader, 0, 0));
        for (int what = 0; what <= 4; what++) {
            int w = what;
            Refusals.refusedWithoutSuchPart("recap(0, .., " + w + ")", (x, part) -> x.recap(0, part, w));
            Refusals.refusedWithoutSuchPart("recap(5, .., " + w + ")", (x, part) -> x.recap(5, part, w));
        }
    }

    @Holds(in = "Promise 21", sentence = "0: its lines, how many; 1: their words; 2: the parts that it tells, as a mask")
    static void recapOfNoLineAnd19Lines() {
        SerialRecaps x = Scenes.parts(20);
        x.set(0, 19);
        recap(x, 0, 0, 0, 0, 0, 0, 10);
        recap(x, 0, 1, 1, 1, 1, 0, 11);
        recap(x, 0, 19, 19, 19, (1 << 19) - 1, 0, 29);
    }

    @Holds(in = "Promise 21", sentence = "3: parts that are left out")
    static void recapLeavesOutNoneOneAnd19() {
        SerialRecaps x = Scenes.parts(20);
        x.set(0, 19);
        Checks.due("with 19 lines", 0, x.recap(0, 19, 3));
        x.set(0, 18);
        Checks.due("with 18 lines", 1, x.recap(0, 19, 3));
        x.set(0, 0);
        Checks.due("without a line", 19, x.recap(0, 19, 3));
        Checks.due("where nothing is missed", 0, x.recap(0, 0, 3));
    }

    @Holds(in = "Promise 21", sentence = "4: the words that the reader would read, with those of the part")
    static void recapOfTheFewestAndTheMostWords() {
        SerialRecaps x = Scenes.told("0w1");
        recap(x, 0, 0, 0, 0, 0, 0, 1);
        SerialRecaps y = new SerialRecaps();
        for (int part = 0; part < 20; part++) {
            y.add(1, NONE, 99);
        }
        y.set(0, 19);
        y.set(1, 1);
        recap(y, 0, 19, 19, 19 * 99, (1 << 19) - 1, 0, 20 * 99);
        y.set(1, 20);
        recap(y, 0, 19, 19, 19 * 5, (1 << 19) - 1, 0, 99 + 19 * 5);
    }

    @Holds(in = "Promise 21", sentence = "Returns the number (also if the reader has read the part).")
    static void recapOfPartsThatAreToldOrRead() {
        SerialRecaps x = Scenes.told("0w7;0w8;0w9");
        x.set(0, 0);
        x.mail(0, 2);
        x.set(0, 4);
        recap(x, 0, 2, 2, 2, 3, 0, 11);
        x.mail(1, 2);
        recap(x, 1, 1, 0, 0, 0, 0, 8);
        recap(x, 1, 2, 0, 0, 0, 0, 9);
        SerialRecaps y = Scenes.full();
        recap(y, 2, 19, 0, 0, 0, 0, 10);
    }

    @Holds(in = "Promise 21", sentence = "Throws `IllegalArgumentException` if what is not 0 to 4")
    static void recapRefusesWhatMinus1And5() {
        for (int what : Refusals.outside(0, 4)) {
            Refusals.refused(Scenes::busy, Refusals.ARGUMENT, "recap(0, 0, " + what + ")", x -> x.recap(0, 0, what));
            Refusals.refused(Scenes::full, Refusals.ARGUMENT, "recap(5, 19, " + what + ")",
                x -> x.recap(5, 19, what));
        }
    }

    @Holds(in = "Promise 21", sentence = "Throws `IndexOutOfBoundsException` if there is no such reader or part")
    static void recapThrowsForTheReaderOrPartFirst() {
        Refusals.refusedOutside(0, 5, Refusals.INDEX, "recap(.., 0, 5)", (x, reader) -> x.recap(reader, 0, 5));
        Refusals.refusedOutside(0, 5, Refusals.INDEX, "recap(.., 0, -1)", (x, reader) -> x.recap(reader, 0, -1));
        Refusals.refusedWithoutSuchPart("recap(0, .., 5)", (x, part) -> x.recap(0, part, 5));
        Refusals.refusedWithoutSuchPart("recap(0, .., -1)", (x, part) -> x.recap(0, part, -1));
    }

    // ---- 22: easiest

    @Holds(in = "Promise 22", sentence = "Finds the part with which a reader could best go on.")
    static void easiestGoesOnPartByPart() {
        SerialRecaps x = Scenes.told("0w30;0w1;1w5;1w4;2w5");
        for (int due : new int[] {1, 2, 3, 4, 0}) {
            Checks.due("easiest(0)", due, x.easiest(0));
            x.mail(0, due);
        }
    }

    @Holds(in = "Promise 22", sentence = "`reader`: 0 to 5")
    static void easiestTakesReaders0And5() {
        SerialRecaps x = Scenes.told("0;1");
        x.mail(0, 0);
        Checks.due("easiest(0)", 1, x.easiest(0));
        Checks.due("easiest(5)", 0, x.easiest(5));
        x.mail(5, 0);
        Checks.due("easiest(5)", 1, x.easiest(5));
    }

    @Holds(in = "Promise 22", sentence = "Throws `IndexOutOfBoundsException` if there is no such reader")
    static void easiestRefusesReadersMinus1And6() {
        Refusals.refusedOutside(0, 5, Refusals.INDEX, "easiest", (x, reader) -> x.easiest(reader));
    }

    @Holds(in = "Promise 22", sentence = "the one of which fewest parts would be left out")
    static void easiestCountsWhatIsLeftOutBeforeWords() {
        SerialRecaps x = Scenes.told("0w99;0w1;0w1");
        x.set(0, 0);
        Checks.due("none is left out of the first", 0, x.easiest(3));
        SerialRecaps y = Scenes.told("0w1;1w1;2w1;01w1;012w99;01w2");
        y.set(0, 2);
        y.mail(3, 0);
        y.mail(3, 1);
        y.mail(3, 2);
        y.forget(3);
        Checks.due("the fewest words of those with none left out", 3, y.easiest(3));
    }

    @Holds(in = "Promise 22", sentence = "of several the one with the fewest words that the reader would read")
    static void easiestCountsTheWordsOfLinesToo() {
        SerialRecaps x = Scenes.told("0w12;0w11;1w13");
        Checks.due("11 and 2 are more than 12", 0, x.easiest(0));
        x.set(1, 12);
        Checks.due("11 and 1 are 12 too", 0, x.easiest(0));
        SerialRecaps y = Scenes.told("0w12;0w10;1w13");
        Checks.due("10 and 2 are 12 too", 0, y.easiest(0));
        y.set(1, 12);
        Checks.due("10 and 1 are fewer", 1, y.easiest(0));
    }

    @Holds(in = "Promise 22", sentence = "of these the lowest")
    static void easiestTakesTheLowestOf20AlikeParts() {
        SerialRecaps x = Scenes.parts(20);
        x.set(0, 19);
        x.mail(0, 19);
        for (int due = 0; due < 19; due++) {
            Checks.due("easiest(0)", due, x.easiest(0));
            x.mail(0, due);
        }
        SerialRecaps y = Scenes.told("0w5;1w4;2w4;3w4");
        Checks.due("the lowest of the fewest words", 1, y.easiest(0));
    }

    @Holds(in = "Promise 22", sentence = "Returns of the parts that are not read")
    static void easiestTakesWhatIsToldAndTheLastPart() {
        SerialRecaps x = Scenes.told("0w30;0w1;0w99");
        x.mail(0, 1);
        x.mail(0, 2);
        Checks.due("what is told is not read", 0, x.easiest(0));
        SerialRecaps y = Scenes.parts(20);
        for (int part = 0; part < 19; part++) {
            y.mail(2, part);
        }
        Checks.due("the last of 20", 19, y.easiest(2));
    }

    @Holds(in = "Promise 22", sentence = "NONE if all are read.")
    static void easiestIsNoneIfAllAreRead() {
        Checks.due("without parts", NONE, new SerialRecaps().easiest(5));
        SerialRecaps x = Scenes.parts(1);
        x.mail(5, 0);
        Checks.due("the only one is read", NONE, x.easiest(5));
        Checks.due("all 20 are read", NONE, Scenes.full().easiest(2));
    }

    // ---- 23: enough

    @Holds(in = "Promise 23", sentence = "Tells how many lines a recap would need.")
    static void enoughCountsNoPartsThatAreRead() {
        SerialRecaps x = Scenes.told("0;0;0;1;01;2");
        Checks.due("enough(0)", 4, x.enough(0));
        x.mail(0, 4);
        x.undo();
        x.set(0, 0);
        Checks.due("whatever the setting is", 4, x.enough(0));
        x.mail(0, 4);
        Checks.due("without those read", 2, x.enough(0));
        x.mail(0, 2);
        Checks.due("then", 1, x.enough(0));
        x.catchUp(0);
        Checks.due("all are read", 0, x.enough(0));
    }

    @Holds(in = "Promise 23", sentence = "`reader`: 0 to 5")
    static void enoughTakesReaders0And5() {
        SerialRecaps x = Scenes.parts(3);
        x.mail(0, 2);
        Checks.due("enough(0)", 0, x.enough(0));
        Checks.due("enough(5)", 2, x.enough(5));
    }

    @Holds(in = "Promise 23", sentence = "Throws `IndexOutOfBoundsException` if there is no such reader")
    static void enoughRefusesReadersMinus1And6() {
        Refusals.refusedOutside(0, 5, Refusals.INDEX, "enough", (x, reader) -> x.enough(reader));
    }

    @Holds(in = "Promise 23", sentence = "Returns the least setting 0, 0 to 19")
    static void enoughReturns0To19() {
        Checks.due("without parts", 0, new SerialRecaps().enough(5));
        for (int parts = 1; parts <= 20; parts++) {
            Checks.due("with " + parts + " parts", parts - 1, Scenes.parts(parts).enough(5));
        }
    }

    @Holds(in = "Promise 23", sentence = "with which no recap of a part that is not read would leave a part out.")
    static void enoughIsTheLeastSettingThatLeavesNoneOut() {
        SerialRecaps x = Scenes.parts(20);
        x.mail(5, 19);
        int enough = x.enough(5);
        Checks.due("told parts count, if what they need is unknown", 15, enough);
        x.set(0, enough);
        Checks.due("with it", 0, leftOutAtMost(x));
        x.set(0, enough - 1);
        Checks.due("with one less", 1, leftOutAtMost(x));
    }

    private static int leftOutAtMost(SerialRecaps x) {
        int most = 0;
        for (int part = 0; part < 19; part++) {
            most = Math.max(most, x.recap(5, part, 3));
        }
        return most;
    }

    // ---- 24: readShare

    @Holds(in = "Promise 24", sentence = "Returns how much the readers have read.")
    static void readShareGrowsByWhatIsReadAlone() {
        SerialRecaps x = Scenes.parts(7);
        Checks.due("nothing", 0.0, x.readShare());
        x.mail(0, 3);
        Checks.due("told is not read", 1 / 42.0, x.readShare());
        x.mailAll(6, 2);
        Checks.due("of all", 6 / 42.0, x.readShare());
    }

    @Holds(in = "Promise 24", sentence = "divided by 6 times the number of parts")
    static void readShareOf1And20Parts() {
        SerialRecaps x = Scenes.parts(1);
        x.mail(5, 0);
        Checks.due("1 of 6", 1 / 6.0, x.readShare());
        SerialRecaps y = Scenes.parts(20);
        Checks.due("0 of 120", 0.0, y.readShare());
        y.mail(5, 19);
        Checks.due("1 of 120", 1 / 120.0, y.readShare());
        for (int reader = 0; reader < 5; reader++) {
            y.catchUp(reader);
        }
        Checks.due("101 of 120", 101 / 120.0, y.readShare());
        y.catchUp(5);
        Checks.due("120 of 120", 1.0, y.readShare());
    }

    @Holds(in = "Promise 24", sentence = "1.0 without parts.")
    static void readShareWithoutParts() {
        Checks.due("new", 1.0, new SerialRecaps().readShare());
        SerialRecaps x = Scenes.parts(1);
        x.removeLast();
        Checks.due("the only one removed", 1.0, x.readShare());
    }

    // ---- 25: digest

    private static long mix(long hash, long... values) {
        long h = hash;
        for (long v : values) {
            h = 31 * h + v;
        }
        return h;
    }

    @Holds(in = "Promise 25", sentence = "The hash starts at 2803.")
    static void digestWithoutParts() {
        SerialRecaps x = Scenes.typed("w~");
        long due = mix(2803, 0, 0, 0, 0, 0, 6, 0, 4, 10);
        for (int reader = 0; reader < 6; reader++) {
            due = mix(due, 0, 0, 0, 0, 0, 0, 0, -1, 0);
        }
        for (int plot = 0; plot < 6; plot++) {
            due = mix(due, 0, -1, 0, 0);
        }
        due = mix(due, Double.doubleToLongBits(1.0));
        Checks.due("with two characters", mix(due, 2, 'w', '~'), x.digest());
        x.clearBuffer();
        Checks.due("with an empty buffer", mix(due, 0), x.digest());
    }

    @Holds(in = "Promise 25", sentence = "Computes a hash of the whole state.")
    static void digestWithAPart() {
        SerialRecaps x = Scenes.typed("w~");
        x.add(1, 0, 7);
        x.mail(0, 0);
        long due = mix(2803, 1, 7, 1, 0, 7, 1, 2, 4, 10, 1, 0, 7, 0, 0, 1, 0);
        due = mix(due, 2, 1, 0, 0, 1, 7, 0, 0, -1, 0, 0, 0, 0, 0, 7);
        for (int reader = 1; reader < 6; reader++) {
            due = mix(due, 0, 0, 0, 1, 0, 0, 0, 0, 0, 0, 0, 0, 0, 0, 7);
        }
        due = mix(due, 1, 0, 1, 1);
        for (int plot = 1; plot < 6; plot++) {
            due = mix(due, 0, -1, 0, 0);
        }
        Checks.due("digest()", mix(due, Double.doubleToLongBits(1 / 6.0), 2, 'w', '~'), x.digest());
    }

    /** A hash without bounds, cut to 64 bits at its end. */
    private static final class Whole {
        private BigInteger hash = BigInteger.valueOf(2803);

        void take(long value) {
            hash = hash.multiply(BigInteger.valueOf(31)).add(BigInteger.valueOf(value));
        }
    }

    @Holds(in = "Promise 25", sentence = "For each value v of the following list, in order, the hash becomes 31 * hash + v")
    static void digestOverflowsAsLongsDo() {
        Whole whole = new Whole();
        SerialRecaps x = Scenes.full();
        for (int what = 0; what <= 6; what++) {
            whole.take(x.count(what));
        }
        whole.take(x.setting(0));
        whole.take(x.setting(1));
        takeParts(whole, x);
        for (int reader = 0; reader < 6; reader++) {
            // A serial of its own for each reader, as the looks at all are more than 512 calls.
            takeReader(whole, Scenes.full(), reader);
        }
        for (int plot = 0; plot < 6; plot++) {
            for (int what = 0; what <= 3; what++) {
                whole.take(x.plot(plot, what));
            }
        }
        whole.take(Double.doubleToLongBits(x.readShare()));
        whole.take(60);
        for (char code : Scenes.SIXTY.toCharArray()) {
            whole.take(code);
        }
        Checks.due("more than 64 bits", true, whole.hash.bitLength() > 1000);
        Checks.due("digest()", whole.hash.longValue(), x.digest());
    }

    private static void takeParts(Whole whole, SerialRecaps x) {
        for (int part = 0; part < 20; part++) {
            for (int what = 0; what <= 6; what++) {
                whole.take(x.part(part, what));
            }
        }
    }

    private static void takeReader(Whole whole, SerialRecaps x, int reader) {
        for (int part = 0; part < 20; part++) {
            whole.take(x.knows(reader, part));
        }
        for (int what = 0; what <= 6; what++) {
            whole.take(x.reader(reader, what));
        }
        whole.take(x.easiest(reader));
        whole.take(x.enough(reader));
        for (int what = 0; what <= 4; what++) {
            whole.take(x.recap(reader, 19, what));
        }
    }

    @Holds(in = "Promise 25", sentence = "the bits of readShare (as Double.doubleToLongBits)")
    static void digestTakesTheBitsOfAllShares() {
        for (int parts = 1; parts <= 20; parts++) {
            SerialRecaps x = new SerialRecaps();
            PlainSerial y = new PlainSerial();
            for (int part = 0; part < parts; part++) {
                Checks.due("add", y.add(1 << part % 6, -1, 1 + part), x.add(1 << part % 6, -1, 1 + part));
            }
            for (int mails = 0; mails < 6 * parts; mails++) {
                Checks.due(mails + " of " + parts, y.digest(), x.digest());
                Checks.due("mail", y.mail(mails % 6, mails / 6), x.mail(mails % 6, mails / 6));
            }
            Checks.due("all of " + parts, y.digest(), x.digest());
        }
    }

    @Holds(in = "Promise 25", sentence = "the length of the buffer and each of its character codes.")
    static void digestTakesAllCharactersInTheirOrder() {
        SerialRecaps x = new SerialRecaps();
        PlainSerial y = new PlainSerial();
        for (int length = 1; length <= 60; length++) {
            x.append(32 + length);
            y.append(32 + length);
            Checks.due("with " + length + " characters", y.digest(), x.digest());
        }
        Checks.due("the other order", false, Scenes.typed("01").digest() == Scenes.typed("10").digest());
    }

    @Holds(in = "Promise 25", sentence = "Returns the hash.")
    static void digestReturnsTheSameAgain() {
        SerialRecaps x = Scenes.busy();
        long first = x.digest();
        Checks.due("again", first, x.digest());
        Checks.due("of another in the same state", first, Scenes.busy().digest());
    }
}
