/** Long runs of calls, right ones and wrong ones, each compared with PlainSerial; and short texts, all there are. */
final class RunsTest {
    private static final int RUNS = 400;
    /** What an object answers after so many calls is free. */
    private static final int CALLS = 512;
    private static final String SIGNS = "01569!w;a";

    private long seed;
    private int calls;
    private final SerialRecaps x = new SerialRecaps();
    private final PlainSerial y = new PlainSerial();

    private RunsTest(long seed) {
        this.seed = seed;
    }

    public static void main(String[] args) {
        for (int run = 1; run <= RUNS; run++) {
            new RunsTest(run).run(run);
        }
        texts("");
        Checks.end();
    }

    /** A generator of our own, so that each run is the same on every machine. */
    private int below(int bound) {
        seed = seed * 6364136223846793005L + 1442695040888963407L;
        return (int) ((seed >>> 33) % bound);
    }

    /** Mostly low to high, now and then a value outside. */
    private int about(int low, int high) {
        switch (below(50)) {
            case 0:
                return low - 1;
            case 1:
                return high + 1;
            case 2:
                return below(2) == 0 ? Integer.MIN_VALUE : Integer.MAX_VALUE;
            default:
                return low + below(high - low + 1);
        }
    }

    private int somePart() {
        int parts = y.count(0);
        return parts == 0 ? below(3) - 1 : about(0, parts - 1);
    }

    private int someCliff(int plots) {
        int cliff = about(0, 5);
        boolean right = cliff >= 0 && cliff < 6 && (plots >> cliff & 1) == 1;
        return right || below(20) == 0 ? cliff : -1;
    }

    private int somePlots() {
        return below(3) == 0 ? about(1, 63) : 1 << below(6) | 1 << below(6);
    }

    private void run(int run) {
        // Some runs build up many parts, others remove, type or undo more.
        int taste = run % 4;
        for (int step = 0; calls < CALLS; step++) {
            String name = "run " + run + ", before call " + calls + ": " + step(below(23), taste);
            if (step % 3 == 0) {
                same(name + "; digest()", y::digest, x::digest);
            }
        }
    }

    private void same(String call, Checks.Call due, Checks.Call got) {
        if (calls < CALLS) {
            calls++;
            Checks.due(call, Checks.outcome(due), Checks.outcome(got));
        }
    }

    private String step(int kind, int taste) {
        if (kind < 9) {
            return changing(kind, taste);
        }
        return kind < 14 ? typing(kind, taste) : looking(kind);
    }

    private String changing(int kind, int taste) {
        int plots = somePlots();
        int cliff = someCliff(plots);
        int part = somePart();
        int reader = about(0, 5);
        switch (kind) {
            case 0:
            case 1: {
                int words = about(1, 99);
                String name = "add(" + plots + ", " + cliff + ", " + words + ")";
                same(name, () -> y.add(plots, cliff, words), () -> x.add(plots, cliff, words));
                return name;
            }
            case 2: {
                String name = "change(" + part + ", " + plots + ", " + cliff + ")";
                same(name, () -> y.change(part, plots, cliff), () -> x.change(part, plots, cliff));
                return name;
            }
            case 3: {
                if (below(4) >= 1 + taste % 2 * 2) {
                    return "nothing";
                }
                same("removeLast()", y::removeLast, x::removeLast);
                return "removeLast()";
            }
            case 4: {
                int setting = about(0, 1);
                int value = setting == 1 ? about(1, 20) : about(0, 19);
                String name = "set(" + setting + ", " + value + ")";
                same(name, () -> y.set(setting, value), () -> x.set(setting, value));
                return name;
            }
            case 5:
            case 6: {
                String name = "mail(" + reader + ", " + part + ")";
                same(name, () -> y.mail(reader, part), () -> x.mail(reader, part));
                return name;
            }
            case 7: {
                int lost = below(3) == 0 ? 0 : about(0, 63);
                if (taste == 0 && below(3) != 0) {
                    return "nothing";
                }
                String name = "mailAll(" + part + ", " + lost + ")";
                same(name, () -> y.mailAll(part, lost), () -> x.mailAll(part, lost));
                return name;
            }
            default: {
                if (below(8) == 0) {
                    String name = "catchUp(" + reader + ")";
                    same(name, () -> y.catchUp(reader), () -> x.catchUp(reader));
                    return name;
                }
                String name = "forget(" + reader + ")";
                same(name, () -> y.forget(reader), () -> x.forget(reader));
                return name;
            }
        }
    }

    private String typing(int kind, int taste) {
        switch (kind) {
            case 9:
            case 10: {
                String text = someText();
                for (int i = 0; i < text.length(); i++) {
                    int code = text.charAt(i);
                    same("append(" + code + ")", () -> y.append(code), () -> x.append(code));
                }
                int far = about(33, 126);
                if (below(20) == 0) {
                    same("append(" + far + ")", () -> y.append(far), () -> x.append(far));
                }
                same("firstError()", y::firstError, x::firstError);
                return "append " + text;
            }
            case 11: {
                same("addAll()", y::addAll, x::addAll);
                return "addAll()";
            }
            case 12: {
                if (below(2) == 0) {
                    return "nothing";
                }
                same("clearBuffer()", y::clearBuffer, x::clearBuffer);
                return "clearBuffer()";
            }
            default: {
                int times = taste == 3 ? below(8) : below(2);
                for (int i = 0; i < times; i++) {
                    same("undo()", y::undo, x::undo);
                }
                return "undo(), " + times + " times";
            }
        }
    }

    private String someText() {
        StringBuilder text = new StringBuilder(y.length() > 0 && below(10) != 0 ? ";" : "");
        int parts = 1 + below(3);
        for (int p = 0; p < parts; p++) {
            text.append(p == 0 ? "" : ";");
            int plots = 1 + below(63) & (below(2) == 0 ? 63 : 9 << below(3)) | 1 << below(6);
            for (int plot = 0; plot < 6; plot++) {
                text.append((plots >> plot & 1) == 1 ? "" + plot : "");
            }
            int cliff = below(6);
            text.append((plots >> cliff & 1) == 1 || below(40) == 0 ? "!" + cliff : "");
            text.append(below(3) == 0 ? "w" + (below(30) == 0 ? 0 : 1 + below(99)) : "");
        }
        return text.toString();
    }

    private String looking(int kind) {
        int part = somePart();
        int reader = about(0, 5);
        int what = about(0, 6);
        same("part(" + part + ", " + what + ")", () -> y.part(part, what), () -> x.part(part, what));
        same("knows(" + reader + ", " + part + ")", () -> y.knows(reader, part), () -> x.knows(reader, part));
        same("reader(" + reader + ", " + what + ")", () -> y.reader(reader, what), () -> x.reader(reader, what));
        same("plot(" + reader + ", " + what + ")", () -> y.plot(reader, what), () -> x.plot(reader, what));
        same("count(" + what + ")", () -> y.count(what), () -> x.count(what));
        same("setting(" + what + ")", () -> y.setting(what), () -> x.setting(what));
        same("recap(" + reader + ", " + part + ", " + what + ")",
            () -> y.recap(reader, part, what), () -> x.recap(reader, part, what));
        same("easiest(" + reader + ")", () -> y.easiest(reader), () -> x.easiest(reader));
        same("enough(" + reader + ")", () -> y.enough(reader), () -> x.enough(reader));
        same("readShare()", y::readShare, x::readShare);
        return "looks, " + kind;
    }

    private static void texts(String text) {
        SerialRecaps x = new SerialRecaps();
        Scenes.type(x, text);
        Checks.due("12: firstError of " + text, PlainSerial.errorOf(text), x.firstError());
        Object due = PlainSerial.isWhole(text) ? (Object) text.split(";").length : IllegalArgumentException.class.getName();
        Checks.due("13: addAll of " + text, due, Checks.outcome(x::addAll));
        for (int i = 0; i < SIGNS.length() && text.length() < 5; i++) {
            texts(text + SIGNS.charAt(i));
        }
    }
}
