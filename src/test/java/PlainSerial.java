import java.util.ArrayDeque;
import java.util.ArrayList;
import java.util.Deque;
import java.util.List;
import java.util.SortedSet;
import java.util.TreeSet;
import java.util.regex.Matcher;
import java.util.regex.Pattern;

/** The document once more, as plainly as it can be said, to compare with. */
final class PlainSerial {
    record Part(SortedSet<Integer> plots, int cliff, int words) {
    }

    private static final Pattern ONE = Pattern.compile("([0-5]+)(?:!([0-5]))?(?:w([1-9][0-9]?))?");
    private static final Pattern WHOLE = Pattern.compile(allowed() + "(?:;" + allowed() + ")*");

    private static final class Situation {
        List<Part> parts = new ArrayList<>();
        List<List<Integer>> known = new ArrayList<>();
        int[] settings = {4, 10};
        int[] words = new int[6];
        int[] lines = new int[6];
        int[] left = new int[6];
        int reached = 0;
        int lost = 0;

        Situation() {
            for (int r = 0; r < 6; r++) {
                known.add(new ArrayList<>());
            }
        }

        Situation copy() {
            Situation c = new Situation();
            c.parts.addAll(parts);
            for (int r = 0; r < 6; r++) {
                c.known.get(r).addAll(known.get(r));
            }
            c.settings = settings.clone();
            c.words = words.clone();
            c.lines = lines.clone();
            c.left = left.clone();
            c.reached = reached;
            c.lost = lost;
            return c;
        }
    }

    private Situation s = new Situation();
    private final Deque<Situation> saved = new ArrayDeque<>();
    private String buffer = "";

    /** Each set of plots, spelled out, with the cliffs that it allows. */
    private static String allowed() {
        StringBuilder all = new StringBuilder("(?:");
        for (int mask = 1; mask < 64; mask++) {
            StringBuilder digits = new StringBuilder();
            for (int plot = 0; plot < 6; plot++) {
                if ((mask & 1 << plot) != 0) {
                    digits.append(plot);
                }
            }
            all.append(mask == 1 ? "" : "|").append(digits).append("(?:![").append(digits).append("])?");
        }
        return all.append(")(?:w[1-9][0-9]?)?").toString();
    }

    static boolean isWhole(String text) {
        return WHOLE.matcher(text).matches();
    }

    /** One more character is enough to make any right beginning whole. */
    static boolean begins(String text) {
        if (text.isEmpty() || isWhole(text)) {
            return true;
        }
        for (char c = '0'; c <= '5'; c++) {
            if (isWhole(text + c)) {
                return true;
            }
        }
        return false;
    }

    static int errorOf(String text) {
        int i = 0;
        while (i < text.length() && begins(text.substring(0, i + 1))) {
            i++;
        }
        return i;
    }

    private static void index(int value, int size) {
        if (value < 0 || value >= size) {
            throw new IndexOutOfBoundsException();
        }
    }

    private static void argument(boolean right) {
        if (!right) {
            throw new IllegalArgumentException();
        }
    }

    private static void state(boolean right) {
        if (!right) {
            throw new IllegalStateException();
        }
    }

    private static SortedSet<Integer> numbers(int mask) {
        SortedSet<Integer> set = new TreeSet<>();
        for (int i = 0; i < 32; i++) {
            if ((mask & 1 << i) != 0) {
                set.add(i);
            }
        }
        return set;
    }

    private static int mask(Iterable<Integer> numbers) {
        int mask = 0;
        for (int n : numbers) {
            mask |= 1 << n;
        }
        return mask;
    }

    private void save() {
        saved.addLast(s.copy());
        if (saved.size() > 6) {
            saved.removeFirst();
        }
    }

    private void join(Part part) {
        s.parts.add(part);
        for (List<Integer> k : s.known) {
            k.add(0);
        }
    }

    int add(int plots, int cliff, int words) {
        argument(plots >= 1 && plots <= 63 && words >= 1 && words <= 99);
        argument(cliff == -1 || numbers(plots).contains(cliff));
        state(s.parts.size() < 20);
        save();
        join(new Part(numbers(plots), cliff, words));
        return s.parts.size() - 1;
    }

    int change(int part, int plots, int cliff) {
        index(part, s.parts.size());
        argument(plots >= 1 && plots <= 63);
        argument(cliff == -1 || numbers(plots).contains(cliff));
        save();
        Part old = s.parts.get(part);
        s.parts.set(part, new Part(numbers(plots), cliff, old.words()));
        return mask(old.plots());
    }

    int removeLast() {
        state(!s.parts.isEmpty());
        save();
        int last = s.parts.size() - 1;
        int read = 0;
        for (List<Integer> k : s.known) {
            read += k.remove(last) == 2 ? 1 : 0;
        }
        s.parts.remove(last);
        return read;
    }

    int set(int setting, int value) {
        index(setting, 2);
        argument(setting == 0 ? value >= 0 && value <= 19 : value >= 1 && value <= 20);
        save();
        int old = s.settings[setting];
        s.settings[setting] = value;
        return old;
    }

    private SortedSet<Integer> needs(int part) {
        SortedSet<Integer> needed = new TreeSet<>();
        for (int plot : s.parts.get(part).plots()) {
            int latest = -1;
            for (int p = 0; p < part; p++) {
                if (s.parts.get(p).plots().contains(plot)) {
                    latest = p;
                }
            }
            if (latest >= 0) {
                needed.add(latest);
            }
        }
        return needed;
    }

    private void missed(int reader, int part, SortedSet<Integer> found) {
        for (int p : needs(part)) {
            if (s.known.get(reader).get(p) == 0 && found.add(p)) {
                missed(reader, p, found);
            }
        }
    }

    private List<Integer> missed(int reader, int part) {
        SortedSet<Integer> found = new TreeSet<>();
        missed(reader, part, found);
        return new ArrayList<>(found);
    }

    private List<Integer> told(int reader, int part) {
        List<Integer> missed = missed(reader, part);
        return missed.subList(Math.max(0, missed.size() - s.settings[0]), missed.size());
    }

    private int deliver(int reader, int part) {
        List<Integer> told = told(reader, part);
        s.words[reader] += recap(reader, part, 4);
        s.lines[reader] += told.size();
        s.left[reader] += missed(reader, part).size() - told.size();
        s.reached++;
        for (int p : told) {
            s.known.get(reader).set(p, 1);
        }
        s.known.get(reader).set(part, 2);
        return told.size();
    }

    int mail(int reader, int part) {
        index(reader, 6);
        index(part, s.parts.size());
        state(s.known.get(reader).get(part) != 2);
        save();
        return deliver(reader, part);
    }

    int mailAll(int part, int lost) {
        index(part, s.parts.size());
        argument(lost >= 0 && lost <= 63);
        save();
        int reached = 0;
        for (int r = 0; r < 6; r++) {
            if (s.known.get(r).get(part) == 2) {
                continue;
            }
            if (numbers(lost).contains(r)) {
                s.lost++;
            } else {
                deliver(r, part);
                reached++;
            }
        }
        return reached;
    }

    int forget(int reader) {
        index(reader, 6);
        save();
        int forgotten = 0;
        for (int p = 0; p < s.parts.size(); p++) {
            if (s.known.get(reader).get(p) == 1) {
                s.known.get(reader).set(p, 0);
                forgotten++;
            }
        }
        return forgotten;
    }

    int catchUp(int reader) {
        index(reader, 6);
        save();
        int words = 0;
        for (int p = 0; p < s.parts.size(); p++) {
            if (s.known.get(reader).get(p) != 2) {
                words += recap(reader, p, 4);
                deliver(reader, p);
            }
        }
        return words;
    }

    int append(int code) {
        argument(code >= 33 && code <= 126);
        state(buffer.length() < 60);
        buffer += (char) code;
        return buffer.length();
    }

    int clearBuffer() {
        int length = buffer.length();
        buffer = "";
        return length;
    }

    int firstError() {
        return errorOf(buffer);
    }

    int length() {
        return buffer.length();
    }

    int addAll() {
        argument(isWhole(buffer));
        String[] texts = buffer.split(";");
        state(s.parts.size() + texts.length <= 20);
        save();
        for (String text : texts) {
            Matcher m = ONE.matcher(text);
            if (!m.matches()) {
                throw new AssertionError(text);
            }
            SortedSet<Integer> plots = new TreeSet<>();
            for (char c : m.group(1).toCharArray()) {
                plots.add(c - '0');
            }
            join(new Part(plots, m.group(2) == null ? -1 : Integer.parseInt(m.group(2)),
                m.group(3) == null ? 10 : Integer.parseInt(m.group(3))));
        }
        buffer = "";
        return s.parts.size();
    }

    int undo() {
        state(!saved.isEmpty());
        s = saved.removeLast();
        return saved.size();
    }

    private int allNeeded(int part) {
        SortedSet<Integer> all = new TreeSet<>(needs(part));
        for (int round = 0; round < 20; round++) {
            for (int p : new ArrayList<>(all)) {
                all.addAll(needs(p));
            }
        }
        return all.size();
    }

    int part(int part, int what) {
        index(part, s.parts.size());
        argument(what >= 0 && what <= 6);
        Part p = s.parts.get(part);
        if (what < 4) {
            return new int[] {mask(p.plots()), p.cliff(), p.words(), mask(needs(part))}[what];
        }
        if (what == 6) {
            return allNeeded(part);
        }
        int count = 0;
        for (int other = 0; what == 4 && other < s.parts.size(); other++) {
            count += needs(other).contains(part) ? 1 : 0;
        }
        for (int r = 0; what == 5 && r < 6; r++) {
            count += s.known.get(r).get(part) == 2 ? 1 << r : 0;
        }
        return count;
    }

    int knows(int reader, int part) {
        index(reader, 6);
        index(part, s.parts.size());
        return s.known.get(reader).get(part);
    }

    private int ofKind(int reader, int kind) {
        int count = 0;
        for (int k : s.known.get(reader)) {
            count += k == kind ? 1 : 0;
        }
        return count;
    }

    private boolean open(int reader, int part) {
        int cliff = s.parts.get(part).cliff();
        if (cliff == -1 || s.known.get(reader).get(part) == 0) {
            return false;
        }
        for (int later = part + 1; later < s.parts.size(); later++) {
            if (s.parts.get(later).plots().contains(cliff) && s.known.get(reader).get(later) != 0) {
                return false;
            }
        }
        return true;
    }

    private SortedSet<Integer> openCliffs(int reader) {
        SortedSet<Integer> plots = new TreeSet<>();
        for (int p = 0; p < s.parts.size(); p++) {
            if (open(reader, p)) {
                plots.add(s.parts.get(p).cliff());
            }
        }
        return plots;
    }

    int reader(int reader, int what) {
        index(reader, 6);
        argument(what >= 0 && what <= 6);
        return new int[] {ofKind(reader, 2), ofKind(reader, 1), ofKind(reader, 0), mask(openCliffs(reader)),
            s.words[reader], s.lines[reader], s.left[reader]}[what];
    }

    int plot(int plot, int what) {
        index(plot, 6);
        argument(what >= 0 && what <= 3);
        int[] answers = {0, -1, 0, 0};
        for (int p = 0; p < s.parts.size(); p++) {
            if (s.parts.get(p).plots().contains(plot)) {
                answers[0]++;
                answers[1] = p;
            }
            answers[2] += s.parts.get(p).cliff() == plot ? 1 : 0;
        }
        for (int r = 0; r < 6; r++) {
            answers[3] += openCliffs(r).contains(plot) ? 1 : 0;
        }
        return answers[what];
    }

    int count(int what) {
        argument(what >= 0 && what <= 6);
        int[] answers = {s.parts.size(), 0, s.reached, s.lost, 0, 0, saved.size()};
        for (Part p : s.parts) {
            answers[1] += p.words();
        }
        for (int r = 0; r < 6; r++) {
            answers[4] += s.words[r];
            answers[5] += s.known.get(r).contains(0) ? 0 : 1;
        }
        return answers[what];
    }

    int setting(int setting) {
        index(setting, 2);
        return s.settings[setting];
    }

    int recap(int reader, int part, int what) {
        index(reader, 6);
        index(part, s.parts.size());
        argument(what >= 0 && what <= 4);
        List<Integer> told = told(reader, part);
        int words = 0;
        for (int p : told) {
            words += (int) Math.ceil((double) s.parts.get(p).words() / s.settings[1]);
        }
        return new int[] {told.size(), words, mask(told), missed(reader, part).size() - told.size(),
            words + s.parts.get(part).words()}[what];
    }

    int easiest(int reader) {
        index(reader, 6);
        int best = -1;
        long bestRank = Long.MAX_VALUE;
        for (int p = 0; p < s.parts.size(); p++) {
            long rank = (recap(reader, p, 3) * 10000L + recap(reader, p, 4)) * 100 + p;
            if (s.known.get(reader).get(p) != 2 && rank < bestRank) {
                best = p;
                bestRank = rank;
            }
        }
        return best;
    }

    int enough(int reader) {
        index(reader, 6);
        int old = s.settings[0];
        int least = -1;
        boolean leaves = true;
        while (leaves) {
            least++;
            s.settings[0] = least;
            leaves = false;
            for (int p = 0; p < s.parts.size(); p++) {
                leaves |= s.known.get(reader).get(p) != 2 && recap(reader, p, 3) > 0;
            }
        }
        s.settings[0] = old;
        return least;
    }

    double readShare() {
        if (s.parts.isEmpty()) {
            return 1.0;
        }
        int read = 0;
        for (int r = 0; r < 6; r++) {
            read += ofKind(r, 2);
        }
        return (double) read / (6 * s.parts.size());
    }

    long digest() {
        List<Long> v = new ArrayList<>();
        for (int i = 0; i <= 6; i++) {
            v.add((long) count(i));
        }
        v.add((long) setting(0));
        v.add((long) setting(1));
        int parts = s.parts.size();
        for (int p = 0; p < parts; p++) {
            for (int i = 0; i <= 6; i++) {
                v.add((long) part(p, i));
            }
        }
        for (int r = 0; r < 6; r++) {
            for (int p = 0; p < parts; p++) {
                v.add((long) knows(r, p));
            }
            for (int i = 0; i <= 6; i++) {
                v.add((long) reader(r, i));
            }
            v.add((long) easiest(r));
            v.add((long) enough(r));
            for (int i = 0; i <= 4 && parts > 0; i++) {
                v.add((long) recap(r, parts - 1, i));
            }
        }
        for (int p = 0; p < 6; p++) {
            for (int i = 0; i <= 3; i++) {
                v.add((long) plot(p, i));
            }
        }
        return hash(v, readShare(), buffer);
    }

    private static long hash(List<Long> values, double share, String buffer) {
        values.add(Double.doubleToLongBits(share));
        values.add((long) buffer.length());
        for (char c : buffer.toCharArray()) {
            values.add((long) c);
        }
        long hash = 2803;
        for (long value : values) {
            hash = 31 * hash + value;
        }
        return hash;
    }
}
