/** Braided plots of a serial told by mails, with readers who missed parts. */
public final class SerialRecaps {
    public static final int NONE = -1;

    private static final int PLOTS = 6;
    private static final int ALL_PLOTS = 63;
    private static final int READERS = 6;
    private static final int ALL_READERS = 63;
    private static final int MOST_PARTS = 20;
    private static final int MOST_WORDS = 99;
    private static final int WORDS_UNTOLD = 10;
    private static final int MOST_SAVED = 6;
    private static final int MOST_CHARACTERS = 60;

    private static final int SETTINGS = 2;
    private static final int MOST_LINES = 19;
    private static final int LEAST_SHORTENING = 1;
    private static final int MOST_SHORTENING = 20;

    private static final int LAST_OF_PART = 6;
    private static final int LAST_OF_READER = 6;
    private static final int LAST_OF_PLOT = 3;
    private static final int LAST_OF_COUNT = 6;
    private static final int LAST_OF_RECAP = 4;

    private static final long DIGEST_START = 2803L;
    private static final long EXPONENT_OF_ONE = 1023L;
    private static final int FRACTION_BITS = 52;

    private final State now = new State();
    private final History history = new History();
    private final Text text = new Text();

    public SerialRecaps() {
    }

    // ---- parts

    public int add(int plots, int cliff, int words) throws IllegalArgumentException, IllegalStateException {
        checkPlots(plots, cliff);
        if (words < 1 || words > MOST_WORDS) {
            throw new IllegalArgumentException("words are 1 to 99");
        }
        if (now.story.size >= MOST_PARTS) {
            throw new IllegalStateException("there are 20 parts");
        }
        history.keep(now);
        now.story.put(plots, cliff, words);
        return now.story.size - 1;
    }

    public int change(int part, int plots, int cliff) throws IndexOutOfBoundsException, IllegalArgumentException {
        checkPart(part);
        checkPlots(plots, cliff);
        history.keep(now);
        return now.story.rewrite(part, plots, cliff);
    }

    public int removeLast() throws IllegalStateException {
        if (now.story.size < 1) {
            throw new IllegalStateException("there are no parts");
        }
        history.keep(now);
        int last = now.story.size - 1;
        int hadRead = Integer.bitCount(now.audience.whoRead(last));
        now.audience.dropPart(last);
        now.story.size = last;
        return hadRead;
    }

    public int set(int setting, int value) throws IndexOutOfBoundsException, IllegalArgumentException {
        checkSetting(setting);
        int least = setting == 0 ? 0 : LEAST_SHORTENING;
        int most = setting == 0 ? MOST_LINES : MOST_SHORTENING;
        if (value < least || value > most) {
            throw new IllegalArgumentException("the value is out of range");
        }
        history.keep(now);
        int previous = now.settings[setting];
        now.settings[setting] = value;
        return previous;
    }

    // ---- mails

    public int mail(int reader, int part) throws IndexOutOfBoundsException, IllegalStateException {
        checkReader(reader);
        checkPart(part);
        if (now.audience.hasRead(reader, part)) {
            throw new IllegalStateException("the reader has read it");
        }
        history.keep(now);
        return now.deliver(reader, part);
    }

    public int mailAll(int part, int lost) throws IndexOutOfBoundsException, IllegalArgumentException {
        checkPart(part);
        if (lost < 0 || lost > ALL_READERS) {
            throw new IllegalArgumentException("lost is 0 to 63");
        }
        history.keep(now);
        return now.deliverToAll(part, lost);
    }

    public int forget(int reader) throws IndexOutOfBoundsException {
        checkReader(reader);
        history.keep(now);
        return now.audience.dropTold(reader);
    }

    public int catchUp(int reader) throws IndexOutOfBoundsException {
        checkReader(reader);
        history.keep(now);
        return now.deliverUnread(reader);
    }

    // ---- texts

    public int append(int code) throws IllegalArgumentException, IllegalStateException {
        if (code < 33 || code > 126) {
            throw new IllegalArgumentException("the code is 33 to 126");
        }
        if (text.length >= MOST_CHARACTERS) {
            throw new IllegalStateException("the buffer has 60 characters");
        }
        text.put(code);
        return text.length;
    }

    public int clearBuffer() {
        int length = text.length;
        text.length = 0;
        return length;
    }

    public int firstError() {
        return text.readUntilError();
    }

    public int addAll() throws IllegalArgumentException, IllegalStateException {
        if (!text.isComplete()) {
            throw new IllegalArgumentException("the buffer is not complete parts as a text");
        }
        if (now.story.size + text.completeParts() > MOST_PARTS) {
            throw new IllegalStateException("there would be more than 20 parts");
        }
        history.keep(now);
        text.tellTo(now.story);
        text.length = 0;
        return now.story.size;
    }

    public int undo() throws IllegalStateException {
        State latest = history.latest();
        if (latest == null) {
            throw new IllegalStateException("there is no saved state");
        }
        now.copyFrom(latest);
        history.dropLatest();
        return history.kept;
    }

    // ---- looks; nothing is changed

    public int part(int part, int what) throws IndexOutOfBoundsException, IllegalArgumentException {
        checkPart(part);
        checkWhat(what, LAST_OF_PART);
        return now.ofPart(part, what);
    }

    public int knows(int reader, int part) throws IndexOutOfBoundsException {
        checkReader(reader);
        checkPart(part);
        return now.audience.knowledge(reader, part);
    }

    public int reader(int reader, int what) throws IndexOutOfBoundsException, IllegalArgumentException {
        checkReader(reader);
        checkWhat(what, LAST_OF_READER);
        return now.ofReader(reader, what);
    }

    public int plot(int plot, int what) throws IndexOutOfBoundsException, IllegalArgumentException {
        if (plot < 0 || plot >= PLOTS) {
            throw new IndexOutOfBoundsException("there is no such plot");
        }
        checkWhat(what, LAST_OF_PLOT);
        return now.ofPlot(plot, what);
    }

    public int count(int what) throws IllegalArgumentException {
        checkWhat(what, LAST_OF_COUNT);
        return total(what);
    }

    public int setting(int setting) throws IndexOutOfBoundsException {
        checkSetting(setting);
        return now.settings[setting];
    }

    // ---- what would be; nothing is changed

    public int recap(int reader, int part, int what) throws IndexOutOfBoundsException, IllegalArgumentException {
        checkReader(reader);
        checkPart(part);
        checkWhat(what, LAST_OF_RECAP);
        return now.ofRecap(reader, part, what);
    }

    public int easiest(int reader) throws IndexOutOfBoundsException {
        checkReader(reader);
        return now.bestPart(reader);
    }

    public int enough(int reader) throws IndexOutOfBoundsException {
        checkReader(reader);
        return now.linesForAll(reader);
    }

    public double readShare() {
        return now.shareRead();
    }

    public long digest() {
        long hash = DIGEST_START;
        for (int what = 0; what <= LAST_OF_COUNT; what++) {
            hash = mix(hash, total(what));
        }
        for (int setting = 0; setting < SETTINGS; setting++) {
            hash = mix(hash, now.settings[setting]);
        }
        hash = mixParts(hash);
        for (int reader = 0; reader < READERS; reader++) {
            hash = mixReader(hash, reader);
        }
        hash = mixPlots(hash);
        hash = mix(hash, bitsOfShare(now.shareRead()));
        return mixText(hash);
    }

    private static long mix(long hash, long value) {
        return 31L * hash + value;
    }

    private long mixParts(long before) {
        long hash = before;
        for (int part = 0; part < now.story.size; part++) {
            for (int what = 0; what <= LAST_OF_PART; what++) {
                hash = mix(hash, now.ofPart(part, what));
            }
        }
        return hash;
    }

    private long mixReader(long before, int reader) {
        long hash = before;
        for (int part = 0; part < now.story.size; part++) {
            hash = mix(hash, now.audience.knowledge(reader, part));
        }
        for (int what = 0; what <= LAST_OF_READER; what++) {
            hash = mix(hash, now.ofReader(reader, what));
        }
        hash = mix(hash, now.bestPart(reader));
        hash = mix(hash, now.linesForAll(reader));
        if (now.story.size > 0) {
            for (int what = 0; what <= LAST_OF_RECAP; what++) {
                hash = mix(hash, now.ofRecap(reader, now.story.size - 1, what));
            }
        }
        return hash;
    }

    private long mixPlots(long before) {
        long hash = before;
        for (int plot = 0; plot < PLOTS; plot++) {
            for (int what = 0; what <= LAST_OF_PLOT; what++) {
                hash = mix(hash, now.ofPlot(plot, what));
            }
        }
        return hash;
    }

    private long mixText(long before) {
        long hash = mix(before, text.length);
        for (int i = 0; i < text.length; i++) {
            hash = mix(hash, text.codes[i]);
        }
        return hash;
    }

    /** What Double.doubleToLongBits answers for a share, 0 to 1: LANGUAGE.md leaves that function out. */
    private static long bitsOfShare(double share) {
        if (share <= 0.0) {
            return 0L;
        }
        double scaled = share;
        long exponent = EXPONENT_OF_ONE;
        for (int i = 1; i < EXPONENT_OF_ONE && scaled < 1.0; i++) {
            scaled = scaled * 2.0;
            exponent--;
        }
        return (exponent << FRACTION_BITS) | (long) ((scaled - 1.0) * (double) (1L << FRACTION_BITS));
    }

    private int total(int what) {
        return what == LAST_OF_COUNT ? history.kept : now.ofAll(what);
    }

    private void checkPart(int part) {
        if (part < 0 || part >= now.story.size) {
            throw new IndexOutOfBoundsException("there is no such part");
        }
    }

    private static void checkReader(int reader) {
        if (reader < 0 || reader >= READERS) {
            throw new IndexOutOfBoundsException("there is no such reader");
        }
    }

    private static void checkSetting(int setting) {
        if (setting < 0 || setting >= SETTINGS) {
            throw new IndexOutOfBoundsException("there is no such setting");
        }
    }

    private static void checkWhat(int what, int last) {
        if (what < 0 || what > last) {
            throw new IllegalArgumentException("what is out of range");
        }
    }

    private static void checkPlots(int plots, int cliff) {
        if (plots < 1 || plots > ALL_PLOTS) {
            throw new IllegalArgumentException("plots are 1 to 63");
        }
        if (cliff == NONE) {
            return;
        }
        if (cliff < 0 || cliff >= PLOTS || !isIn(plots, cliff)) {
            throw new IllegalArgumentException("the cliff is none of the plots");
        }
    }

    private static boolean isIn(int mask, int number) {
        return (mask >> number & 1) == 1;
    }

    /** The parts, and what each of them needs. */
    private static final class Story {
        int size;
        final int[] plots = new int[MOST_PARTS];
        final int[] cliffs = new int[MOST_PARTS];
        final int[] words = new int[MOST_PARTS];
        /** Follows from the plots alone; kept, as each recap asks for it many times. */
        final int[] needs = new int[MOST_PARTS];

        void copyFrom(Story other) {
            size = other.size;
            System.arraycopy(other.plots, 0, plots, 0, MOST_PARTS);
            System.arraycopy(other.cliffs, 0, cliffs, 0, MOST_PARTS);
            System.arraycopy(other.words, 0, words, 0, MOST_PARTS);
            System.arraycopy(other.needs, 0, needs, 0, MOST_PARTS);
        }

        /** Only with fewer than 20 parts. */
        void put(int itsPlots, int itsCliff, int itsWords) {
            plots[size] = itsPlots;
            cliffs[size] = itsCliff;
            words[size] = itsWords;
            needs[size] = findNeeds(size);
            size++;
        }

        int rewrite(int part, int itsPlots, int itsCliff) {
            int had = plots[part];
            plots[part] = itsPlots;
            cliffs[part] = itsCliff;
            for (int p = part; p < size; p++) {
                needs[p] = findNeeds(p);
            }
            return had;
        }

        private int findNeeds(int part) {
            int found = 0;
            int open = plots[part];
            for (int p = part - 1; p >= 0 && open != 0; p--) {
                if ((plots[p] & open) != 0) {
                    found |= 1 << p;
                    open &= ~plots[p];
                }
            }
            return found;
        }

        /** Needs point to earlier parts only, so one way down meets every part after all that need it. */
        int allNeeds(int part, int among) {
            int found = needs[part] & among;
            for (int p = part - 1; p >= 0; p--) {
                if (isIn(found, p)) {
                    found |= needs[p] & among;
                }
            }
            return found;
        }

        int howManyNeed(int part) {
            int found = 0;
            for (int p = part + 1; p < size; p++) {
                found += needs[p] >> part & 1;
            }
            return found;
        }

        int everyPart() {
            return (1 << size) - 1;
        }

        int sumOfWords() {
            int sum = 0;
            for (int p = 0; p < size; p++) {
                sum += words[p];
            }
            return sum;
        }

        int howManyGoOnWith(int plot) {
            int found = 0;
            for (int p = 0; p < size; p++) {
                found += plots[p] >> plot & 1;
            }
            return found;
        }

        int latestWith(int plot) {
            for (int p = size - 1; p >= 0; p--) {
                if (isIn(plots[p], plot)) {
                    return p;
                }
            }
            return NONE;
        }

        int howManyCliffs(int plot) {
            int found = 0;
            for (int p = 0; p < size; p++) {
                if (cliffs[p] == plot) {
                    found++;
                }
            }
            return found;
        }

        /** The plots whose cliffs are open to one who knows these parts. */
        int openCliffs(int known) {
            int open = 0;
            int wentOn = 0;
            for (int p = size - 1; p >= 0; p--) {
                if (isIn(known, p)) {
                    if (cliffs[p] != NONE && !isIn(wentOn, cliffs[p])) {
                        open |= 1 << cliffs[p];
                    }
                    wentOn |= plots[p];
                }
            }
            return open;
        }
    }

    /** What the parts are to the readers, as masks of parts, and what is counted of each reader. */
    private static final class Audience {
        final int[] told = new int[READERS];
        final int[] read = new int[READERS];
        final int[] wordsRead = new int[READERS];
        final int[] linesTold = new int[READERS];
        final int[] leftOut = new int[READERS];

        void copyFrom(Audience other) {
            System.arraycopy(other.told, 0, told, 0, READERS);
            System.arraycopy(other.read, 0, read, 0, READERS);
            System.arraycopy(other.wordsRead, 0, wordsRead, 0, READERS);
            System.arraycopy(other.linesTold, 0, linesTold, 0, READERS);
            System.arraycopy(other.leftOut, 0, leftOut, 0, READERS);
        }

        boolean hasRead(int reader, int part) {
            return isIn(read[reader], part);
        }

        int known(int reader) {
            return told[reader] | read[reader];
        }

        int knowledge(int reader, int part) {
            if (hasRead(reader, part)) {
                return 2;
            }
            return isIn(told[reader], part) ? 1 : 0;
        }

        int whoRead(int part) {
            int who = 0;
            for (int r = 0; r < READERS; r++) {
                if (hasRead(r, part)) {
                    who |= 1 << r;
                }
            }
            return who;
        }

        int howManyKnowAll(int parts) {
            int found = 0;
            for (int r = 0; r < READERS; r++) {
                if (known(r) == parts) {
                    found++;
                }
            }
            return found;
        }

        int sumOfWordsRead() {
            int sum = 0;
            for (int r = 0; r < READERS; r++) {
                sum += wordsRead[r];
            }
            return sum;
        }

        int sumOfRead() {
            int sum = 0;
            for (int r = 0; r < READERS; r++) {
                sum += Integer.bitCount(read[r]);
            }
            return sum;
        }

        int dropTold(int reader) {
            int had = Integer.bitCount(told[reader]);
            told[reader] = 0;
            return had;
        }

        /** A part that comes later under the same number must be unknown to all. */
        void dropPart(int part) {
            int others = ~(1 << part);
            for (int r = 0; r < READERS; r++) {
                told[r] &= others;
                read[r] &= others;
            }
        }

        void takeIn(int reader, int part, int partsTold) {
            read[reader] |= 1 << part;
            told[reader] = (told[reader] | partsTold) & ~read[reader];
        }
    }

    /** All that undo brings back. */
    private static final class State {
        final Story story = new Story();
        final Audience audience = new Audience();
        final int[] settings = new int[SETTINGS];
        int mailsReached;
        int mailsLost;

        State() {
            settings[0] = 4;
            settings[1] = 10;
        }

        void copyFrom(State other) {
            story.copyFrom(other.story);
            audience.copyFrom(other.audience);
            System.arraycopy(other.settings, 0, settings, 0, SETTINGS);
            mailsReached = other.mailsReached;
            mailsLost = other.mailsLost;
        }

        private int missedParts(int reader, int part) {
            return story.allNeeds(part, ~audience.known(reader));
        }

        /** A recap that is too long loses the parts with the lowest numbers. */
        private int toldParts(int missed) {
            int told = missed;
            int over = Integer.bitCount(missed) - settings[0];
            for (int i = 0; i < over; i++) {
                told &= told - 1;
            }
            return told;
        }

        private int lineWords(int told) {
            int sum = 0;
            for (int p = 0; p < story.size; p++) {
                if (isIn(told, p)) {
                    sum += shortened(story.words[p]);
                }
            }
            return sum;
        }

        private int shortened(int words) {
            int into = settings[1];
            if (into < LEAST_SHORTENING) {
                return words;
            }
            return (words + into - 1) / into;
        }

        int ofRecap(int reader, int part, int what) {
            int missed = missedParts(reader, part);
            int told = toldParts(missed);
            switch (what) {
                case 0:
                    return Integer.bitCount(told);
                case 1:
                    return lineWords(told);
                case 2:
                    return told;
                case 3:
                    return Integer.bitCount(missed) - Integer.bitCount(told);
                default:
                    return story.words[part] + lineWords(told);
            }
        }

        /** A mail that reaches its reader; answers its lines. */
        int deliver(int reader, int part) {
            int missed = missedParts(reader, part);
            int told = toldParts(missed);
            int lines = Integer.bitCount(told);
            audience.takeIn(reader, part, told);
            audience.wordsRead[reader] += story.words[part] + lineWords(told);
            audience.linesTold[reader] += lines;
            audience.leftOut[reader] += Integer.bitCount(missed) - lines;
            mailsReached++;
            return lines;
        }

        int deliverToAll(int part, int lost) {
            int reached = 0;
            for (int r = 0; r < READERS; r++) {
                if (!audience.hasRead(r, part)) {
                    if (isIn(lost, r)) {
                        mailsLost++;
                    } else {
                        deliver(r, part);
                        reached++;
                    }
                }
            }
            return reached;
        }

        int deliverUnread(int reader) {
            int before = audience.wordsRead[reader];
            for (int p = 0; p < story.size; p++) {
                if (!audience.hasRead(reader, p)) {
                    deliver(reader, p);
                }
            }
            return audience.wordsRead[reader] - before;
        }

        int ofPart(int part, int what) {
            switch (what) {
                case 0:
                    return story.plots[part];
                case 1:
                    return story.cliffs[part];
                case 2:
                    return story.words[part];
                case 3:
                    return story.needs[part];
                case 4:
                    return story.howManyNeed(part);
                case 5:
                    return audience.whoRead(part);
                default:
                    return Integer.bitCount(story.allNeeds(part, story.everyPart()));
            }
        }

        int ofReader(int reader, int what) {
            switch (what) {
                case 0:
                    return Integer.bitCount(audience.read[reader]);
                case 1:
                    return Integer.bitCount(audience.told[reader]);
                case 2:
                    return story.size - Integer.bitCount(audience.known(reader));
                case 3:
                    return story.openCliffs(audience.known(reader));
                case 4:
                    return audience.wordsRead[reader];
                case 5:
                    return audience.linesTold[reader];
                default:
                    return audience.leftOut[reader];
            }
        }

        int ofPlot(int plot, int what) {
            switch (what) {
                case 0:
                    return story.howManyGoOnWith(plot);
                case 1:
                    return story.latestWith(plot);
                case 2:
                    return story.howManyCliffs(plot);
                default:
                    return howManyHang(plot);
            }
        }

        private int howManyHang(int plot) {
            int found = 0;
            for (int r = 0; r < READERS; r++) {
                found += story.openCliffs(audience.known(r)) >> plot & 1;
            }
            return found;
        }

        int ofAll(int what) {
            switch (what) {
                case 0:
                    return story.size;
                case 1:
                    return story.sumOfWords();
                case 2:
                    return mailsReached;
                case 3:
                    return mailsLost;
                case 4:
                    return audience.sumOfWordsRead();
                default:
                    return audience.howManyKnowAll(story.everyPart());
            }
        }

        int bestPart(int reader) {
            int best = NONE;
            int bestLeftOut = 0;
            int bestWords = 0;
            for (int p = 0; p < story.size; p++) {
                if (!audience.hasRead(reader, p)) {
                    int leftOut = ofRecap(reader, p, 3);
                    int words = ofRecap(reader, p, 4);
                    boolean fewer = leftOut < bestLeftOut || leftOut == bestLeftOut && words < bestWords;
                    if (best == NONE || fewer) {
                        best = p;
                        bestLeftOut = leftOut;
                        bestWords = words;
                    }
                }
            }
            return best;
        }

        int linesForAll(int reader) {
            int most = 0;
            for (int p = 0; p < story.size; p++) {
                if (!audience.hasRead(reader, p)) {
                    most = Math.max(most, Integer.bitCount(missedParts(reader, p)));
                }
            }
            return most;
        }

        double shareRead() {
            if (story.size < 1) {
                return 1.0;
            }
            return (double) audience.sumOfRead() / (double) (READERS * story.size);
        }
    }

    /** The saved states, in a ring, so that each row is made once and used again. */
    private static final class History {
        private final State[] rows = new State[MOST_SAVED];
        private int oldest;
        int kept;

        void keep(State state) {
            if (kept >= MOST_SAVED) {
                oldest = (oldest + 1) % MOST_SAVED;
                kept--;
            }
            int place = (oldest + kept) % MOST_SAVED;
            State row = rows[place];
            if (row == null) {
                row = new State();
                rows[place] = row;
            }
            row.copyFrom(state);
            kept++;
        }

        /** Null if there is none. */
        State latest() {
            if (kept < 1) {
                return null;
            }
            return rows[(oldest + kept - 1) % MOST_SAVED];
        }

        void dropLatest() {
            kept--;
        }
    }

    /** The buffer. */
    private static final class Text {
        final int[] codes = new int[MOST_CHARACTERS];
        int length;
        private final Grammar grammar = new Grammar();

        /** Only with fewer than 60 characters. */
        void put(int code) {
            codes[length] = code;
            length++;
        }

        /** Answers the index of the first syntax error, or the length. */
        int readUntilError() {
            grammar.restart();
            for (int i = 0; i < length; i++) {
                if (!grammar.takes(codes[i])) {
                    return i;
                }
            }
            return length;
        }

        boolean isComplete() {
            return readUntilError() == length && grammar.mayEnd();
        }

        /** How many parts there are, if the text is complete. */
        int completeParts() {
            int parts = 1;
            for (int i = 0; i < length; i++) {
                if (codes[i] == ';') {
                    parts++;
                }
            }
            return parts;
        }

        /** Only if the text is complete, and the story has room for its parts. */
        void tellTo(Story story) {
            grammar.restart();
            for (int i = 0; i < length; i++) {
                if (codes[i] == ';') {
                    story.put(grammar.plots, grammar.cliff, grammar.words);
                }
                grammar.takes(codes[i]);
            }
            story.put(grammar.plots, grammar.cliff, grammar.words);
        }
    }

    /** Reads parts as a text, character by character, and holds the part that it is in. */
    private static final class Grammar {
        private static final int PART_DUE = 0;
        private static final int IN_PLOTS = 1;
        private static final int CLIFF_DUE = 2;
        private static final int AFTER_CLIFF = 3;
        private static final int WORDS_DUE = 4;
        private static final int IN_WORDS = 5;
        private static final int AFTER_WORDS = 6;

        private int place;
        int plots;
        int cliff;
        int words;

        void restart() {
            place = PART_DUE;
            plots = 0;
            cliff = NONE;
            words = WORDS_UNTOLD;
        }

        boolean mayEnd() {
            return place == IN_PLOTS || place == AFTER_CLIFF || place == IN_WORDS || place == AFTER_WORDS;
        }

        /** False for a syntax error; then only restart may follow. */
        boolean takes(int code) {
            switch (place) {
                case PART_DUE:
                    return takesPlot(code);
                case IN_PLOTS:
                    return takesPlot(code) || takesSign(code, '!', CLIFF_DUE)
                        || takesSign(code, 'w', WORDS_DUE) || takesEnd(code);
                case CLIFF_DUE:
                    return takesCliff(code);
                case AFTER_CLIFF:
                    return takesSign(code, 'w', WORDS_DUE) || takesEnd(code);
                case WORDS_DUE:
                    return code != '0' && takesDigit(code, 0, IN_WORDS);
                case IN_WORDS:
                    return takesDigit(code, words * 10, AFTER_WORDS) || takesEnd(code);
                default:
                    return takesEnd(code);
            }
        }

        private boolean takesPlot(int code) {
            int plot = code - '0';
            // A plot at or above this one that has come already would break the ascending order.
            if (plot < 0 || plot >= PLOTS || plots >> plot != 0) {
                return false;
            }
            plots |= 1 << plot;
            place = IN_PLOTS;
            return true;
        }

        private boolean takesCliff(int code) {
            int plot = code - '0';
            if (plot < 0 || plot >= PLOTS || !isIn(plots, plot)) {
                return false;
            }
            cliff = plot;
            place = AFTER_CLIFF;
            return true;
        }

        private boolean takesDigit(int code, int tens, int next) {
            if (code < '0' || code > '9') {
                return false;
            }
            words = tens + code - '0';
            place = next;
            return true;
        }

        private boolean takesSign(int code, char sign, int next) {
            if (code != sign) {
                return false;
            }
            place = next;
            return true;
        }

        private boolean takesEnd(int code) {
            if (code != ';') {
                return false;
            }
            restart();
            return true;
        }
    }
}
