import java.util.function.ToIntFunction;

/** The edges of section 7 and of promises 53 to 59: the log, reports, undo, and the saved state. */
public final class RecordEdgeTest {
    private static final Due DUE = new Due();
    private static final String COLORS = "color a change 99;color b change 0;";
    private static final String LANES = "lane 6;lane 6;";
    private static final String CAR = "car a body 0;";
    private static final String BAD = "car a body 0 bad 1;";
    private static final String BAD_TWICE = "car a body 0 bad 2;";
    private static final int[] FAR = {Integer.MIN_VALUE, Integer.MAX_VALUE};

    public static void main(String[] args) {
        logOfNone();
        logOfTwenty();
        logIndex();
        logWhat();
        logBoth();
        logNumbers();
        logEvents();
        logOfEachWay();
        reportOfNothing();
        reportOfLanes();
        reportOfOut();
        longestReport();
        reportBytes();
        reportInPlace();
        noReport();
        undoOfNone();
        undoOfSix();
        undoOfEachCall();
        undoNotOfNothing();
        undoOfScripts();
        undoOfAll();
        undoLeaves();
        forgotten();
        notForgotten();
        saveAnswers();
        saveInPlace();
        saveOfAll();
        notSaved();
        restoreNothing();
        restoreStays();
        restoreForgets();
        DUE.end();
    }

    private static PaintBank after(String setup, String script) {
        PaintBank bank = Due.with(setup);
        Due.play(bank, script);
        return bank;
    }

    // ---- the log

    private static void logOfNone() {
        DUE.sentence("Returns the number of paintings in the log. [..] Throws IndexOutOfBoundsException if there is "
                + "no such painting");
        PaintBank none = new PaintBank();
        DUE.same("no setup", none.logCount(), 0);
        DUE.outside("log 0 of none", () -> none.log(0, 0));
        DUE.outside("log -1 of none", () -> none.log(-1, 0));
        PaintBank bank = after(COLORS + LANES + CAR, "enter 0;wait 3;");
        DUE.same("nothing painted", bank.logCount(), 0);
        DUE.outside("log 0, nothing painted", () -> bank.log(0, 3));
        bank.leave(0);
        DUE.same("one painting", bank.logCount(), 1);
        DUE.same("its car", bank.log(0, 0), 0);
        DUE.outside("a second one", () -> bank.log(1, 0));
        bank.undo();
        DUE.same("undone", bank.logCount(), 0);
        DUE.outside("log 0 undone", () -> bank.log(0, 0));
    }

    /** Twelve cars that are painted three times each: by turns the cars of three. */
    private static PaintBank painted(int paintings) {
        PaintBank bank = Due.with(COLORS + LANES + "rework 3 delay 0;" + BAD_TWICE.repeat(12));
        for (int i = 0; i < paintings; i++) {
            if (bank.back(0) == PaintBank.NONE) {
                bank.enter(0);
            }
            bank.leave(0);
        }
        return bank;
    }

    private static void logOfTwenty() {
        DUE.sentence("the log of paintings (the latest 20)");
        for (int paintings : new int[] {1, 2, 19, 20, 21, 22, 35, 36}) {
            PaintBank bank = painted(paintings);
            int kept = Math.min(paintings, 20);
            DUE.same("time", bank.time(), paintings);
            DUE.same("logCount of " + paintings, bank.logCount(), kept);
            for (int i = 0; i < kept; i++) {
                // Each car is painted three times, one time behind the other.
                DUE.same("log " + i + " of " + paintings, bank.log(i, 0), (paintings - 1 - i) / 3);
            }
            DUE.outside("log " + kept, () -> bank.log(kept, 0));
        }
        PaintBank bank = painted(21);
        bank.undo();
        DUE.same("of 20 when one of 21 is undone", bank.logCount(), 20);
        DUE.same("the latest of them", bank.log(0, 0), 6);
        DUE.same("the first one is there again", bank.log(19, 0), 0);
    }

    private static void logIndex() {
        DUE.sentence("i: 0 for the latest painting, 1 for the one before it, and so on");
        for (int paintings : new int[] {3, 36}) {
            PaintBank bank = painted(paintings);
            int kept = Math.min(paintings, 20);
            for (int i : new int[] {-1, kept, kept + 1, 36, FAR[0], FAR[1]}) {
                DUE.outside("log " + i + " of " + paintings, () -> bank.log(i, 0));
            }
            DUE.same("the latest", bank.log(0, 0), paintings / 3 - 1);
            DUE.same("the oldest", bank.log(kept - 1, 0), paintings == 3 ? 0 : 5);
        }
    }

    private static void logWhat() {
        DUE.sentence("Throws IllegalArgumentException if what is out of range");
        PaintBank bank = painted(2);
        for (int what : new int[] {-1, 4, 5, FAR[0], FAR[1]}) {
            DUE.argument("log 0, " + what, () -> bank.log(0, what));
            DUE.argument("log 1, " + what, () -> bank.log(1, what));
        }
        int[] want = {0, 0, 0, 4};
        for (int what = 0; what < 4; what++) {
            DUE.same("log 1, " + what, bank.log(1, what), want[what]);
        }
    }

    private static void logBoth() {
        DUE.sentence("If several exceptions apply to a call, the one that is listed first is thrown.");
        PaintBank bank = painted(2);
        DUE.outside("log 2, 4", () -> bank.log(2, 4));
        DUE.outside("log -1, -1", () -> bank.log(-1, -1));
        DUE.outside("log of none", () -> new PaintBank().log(0, 4));
        DUE.argument("log 1, 4", () -> bank.log(1, 4));
    }

    private static void entry(String name, PaintBank bank, int i, int... want) {
        for (int what = 0; what < 4; what++) {
            DUE.same(name + ": log " + i + ", " + what, bank.log(i, what), want[what]);
        }
    }

    private static void logNumbers() {
        DUE.sentence("what: 0 the car, 1 the color, 2 what it cost");
        PaintBank bank = Due.with("color a change 99;color b change 0;color c change 1;color d change 2;"
                + "color e change 98;" + LANES + "batch 1 purge 97;" + "car e body 0;".repeat(10)
                + "car b body 0;car a body 0;");
        Due.play(bank, "repeat 12 (enter 0;leave 0;);");
        entry("the last car, to color 0", bank, 0, 11, 0, 99, 1);
        entry("a change that is free", bank, 1, 10, 1, 0, 1);
        entry("the last color, a purge", bank, 2, 9, 4, 97, 2);
        entry("the first car", bank, 11, 0, 4, 0, 0);
        PaintBank jobs = after(COLORS + LANES + "car b body 0;" + CAR, "swap;enter 0;leave 0;enter 0;leave 0;");
        entry("the job that it had when it was painted", jobs, 1, 0, 0, 0, 0);
        entry("the other one", jobs, 0, 1, 1, 0, 1);
    }

    private static void logEvents() {
        DUE.sentence("3 bit 0 a change, bit 1 a purge, bit 2 it failed");
        String setup = COLORS + LANES + "batch 1 purge 5;rework 3 delay 0;";
        PaintBank bank = after(setup + CAR + CAR + "car b body 0;" + BAD + BAD, "repeat 5 (enter 0;leave 0;);");
        entry("nothing", bank, 4, 0, 0, 0, 0);
        entry("a purge", bank, 3, 1, 0, 5, 2);
        entry("a change", bank, 2, 2, 1, 0, 1);
        entry("a change that failed", bank, 1, 3, 0, 99, 5);
        entry("a purge that failed", bank, 0, 4, 0, 5, 6);
        PaintBank first = after(setup + BAD, "enter 0;leave 0;");
        entry("a first one that failed", first, 0, 0, 0, 0, 4);
        PaintBank run = after(COLORS + LANES + "batch 2 purge 5;" + CAR + BAD, "repeat 2 (enter 0;leave 0;);");
        entry("one more of the run", run, 0, 1, 0, 0, 4);
    }

    private static void logOfEachWay() {
        DUE.sentence("Returns the number of paintings in the log.");
        PaintBank bank = Due.with(COLORS + LANES + CAR.repeat(4));
        Due.play(bank, "enter 0;enter 1;enter 0;enter 1;");
        bank.leave(0);
        DUE.same("by leave", bank.logCount(), 1);
        bank.step();
        DUE.same("by step", bank.logCount(), 2);
        Due.play(bank, "leave 1;");
        DUE.same("by a script", bank.logCount(), 3);
        bank.ruleCost(300);
        bank.unloadCost();
        DUE.same("not by looking ahead", bank.logCount(), 3);
        bank.unload();
        DUE.same("by unload", bank.logCount(), 4);
        DUE.none("unload of none", bank.unload());
        DUE.same("not by that", bank.logCount(), 4);
    }

    // ---- reports

    private static void report(String what, PaintBank bank, String want) {
        int length = bank.report();
        DUE.same("bytes of " + what, length, want.length());
        StringBuilder got = new StringBuilder();
        for (int i = 0; i < length; i++) {
            got.append((char) bank.reportByte(i));
        }
        DUE.same("report of " + what, got.toString(), want);
        DUE.outside("behind the report of " + what, () -> bank.reportByte(length));
        DUE.outside("before the report of " + what, () -> bank.reportByte(-1));
    }

    private static void reportOfNothing() {
        DUE.sentence("Writes a report [..] @return the number of its bytes");
        report("nothing", new PaintBank(), "out\n");
        report("cars that wait", Due.with(COLORS + CAR), "out\n");
        report("one empty lane", Due.with("lane 1;"), "lane 0\nout\n");
        report("four empty lanes", Due.with("lane 1;".repeat(4)), "lane 0\nlane 1\nlane 2\nlane 3\nout\n");
    }

    private static void reportOfLanes() {
        DUE.sentence("for each lane, in order, \"lane\", a space, its number, and for each of its cars, from the "
                + "first one on, a space, the name of its color, and its body; then a line feed");
        PaintBank bank = Due.with("color z change 1;color abcdefgh change 1;lane 6;lane 6;lane 6;rework 1 delay 0;"
                + "car z body 0 bad 1;car abcdefgh body 3;car z body 2;car z body 1;car abcdefgh body 0;");
        Due.play(bank, "enter 0;leave 0;enter 2;enter 0;enter 2;");
        report("two lanes with cars", bank, "lane 0 z2\nlane 1\nlane 2 abcdefgh3 z1\nout\n");
        bank.leave(2);
        report("when one has left", bank, "lane 0 z2\nlane 1\nlane 2 z1\nout abcdefgh3\n");
        bank.back(1);
        report("when one came back", bank, "lane 0 z2\nlane 1 z0\nlane 2 z1\nout abcdefgh3\n");
        PaintBank jobs = after("color z change 1;color y change 1;lane 1;lane 1;car y body 3;car z body 3;",
                "swap;enter 0;enter 1;");
        report("present jobs", jobs, "lane 0 z3\nlane 1 y3\nout\n");
    }

    private static void reportOfOut() {
        DUE.sentence("then a line that begins with \"out\" and tells the cars that are out likewise.");
        PaintBank bank = after("color red change 1;color mint change 2;" + LANES + "car red body 0;car mint body 1;"
                + "car red body 2;car mint body 3;", "repeat 2 (enter 0;enter 1;);leave 1;leave 0;leave 0;leave 1;");
        report("cars out", bank, "lane 0\nlane 1\nout mint1 red0 red2 mint3\n");
    }

    private static void longestReport() {
        DUE.sentence("@return the number of its bytes");
        PaintBank bank = Due.with("color abcdefgh change 1;color hgfedcba change 1;lane 6;lane 6;lane 1;lane 1;"
                + "car abcdefgh body 3;".repeat(6) + "car hgfedcba body 2;".repeat(6));
        Due.play(bank, "repeat 6 (enter 0;);repeat 6 (enter 1;);");
        report("twelve names of eight letters", bank, "lane 0" + " abcdefgh3".repeat(6) + "\nlane 1"
                + " hgfedcba2".repeat(6) + "\nlane 2\nlane 3\nout\n");
        DUE.same("the longest", bank.report(), 152);
        bank.unload();
        DUE.same("all out", bank.report(), 152);
        DUE.same("its last byte", bank.reportByte(151), '\n');
        DUE.same("the one before it", bank.reportByte(150), '2');
    }

    private static void reportBytes() {
        DUE.sentence("Throws IndexOutOfBoundsException if there is no such byte, or there was no report");
        PaintBank bank = new PaintBank();
        for (int i : new int[] {-1, 0, 1, 3, 4, FAR[0], FAR[1]}) {
            DUE.outside("byte " + i + " before a report", () -> bank.reportByte(i));
        }
        bank.report();
        String want = "out\n";
        for (int i = 0; i < 4; i++) {
            DUE.same("byte " + i, bank.reportByte(i), want.charAt(i));
        }
        for (int i : new int[] {-1, 4, 5, 151, 152, 153, FAR[0], FAR[1]}) {
            DUE.outside("byte " + i, () -> bank.reportByte(i));
        }
    }

    private static void reportInPlace() {
        DUE.sentence("Writes a report, in place of the one before");
        PaintBank bank = Due.with("lane 1;lane 1;");
        bank.report();
        Due.type(bank, "");
        bank.readSetup();
        DUE.same("the latest one, behind a setup", bank.reportByte(17), '\n');
        DUE.same("a shorter one", bank.report(), 4);
        DUE.outside("what was behind it", () -> bank.reportByte(4));
        DUE.same("its first byte", bank.reportByte(0), 'o');
    }

    private static void noReport() {
        DUE.sentence("or there was no report");
        PaintBank bank = after(COLORS + LANES + CAR, "enter 0;");
        bank.save();
        bank.restore();
        bank.undo();
        DUE.outside("other calls write none", () -> bank.reportByte(0));
    }

    // ---- undo

    private static void undoOfNone() {
        DUE.sentence("NONE, and nothing changes, if there is none");
        DUE.none("at first", new PaintBank().undo());
        PaintBank bank = Due.with(COLORS + LANES + CAR);
        DUE.none("behind a setup", bank.undo());
        bank.enter(0);
        DUE.same("of one", bank.undo(), 0);
        DUE.none("again", bank.undo());
        DUE.same("all behind it", Look.through(bank), Look.through(Due.with(COLORS + LANES + CAR)));
    }

    private static void undoOfSix() {
        DUE.sentence("can be undone, the latest first; the latest 6 of them are kept.");
        for (int calls = 1; calls <= 20; calls++) {
            PaintBank bank = new PaintBank();
            for (int i = 0; i < calls; i++) {
                bank.waits();
            }
            int kept = Math.min(calls, 6);
            for (int i = 1; i <= kept; i++) {
                DUE.same("undo " + i + " of " + calls, bank.undo(), kept - i);
                DUE.same("time", bank.time(), calls - i);
            }
            DUE.none("one more of " + calls, bank.undo());
            DUE.same("time", bank.time(), calls - kept);
        }
        PaintBank bank = new PaintBank();
        for (int round = 0; round < 5; round++) {
            for (int i = 0; i < 4; i++) {
                bank.waits();
            }
            DUE.same("undo among others", bank.undo(), round == 0 ? 3 : 5);
        }
        DUE.same("time", bank.time(), 15);
        for (int left = 4; left >= 0; left--) {
            DUE.same("undo down", bank.undo(), left);
        }
        DUE.none("undo of a seventh", bank.undo());
        DUE.same("time then", bank.time(), 10);
    }

    private static PaintBank ready() {
        PaintBank bank = Due.with(COLORS + LANES + "rework 2 delay 0;" + BAD + BAD + "car b body 1;car a body 1;");
        Due.play(bank, "enter 0;enter 0;leave 0;");
        Due.type(bank, "");
        bank.save();
        bank.restore();
        return bank;
    }

    private static void undoing(String what, ToIntFunction<PaintBank> call, int want) {
        PaintBank bank = ready();
        DUE.same(what, call.applyAsInt(bank), want);
        DUE.same("undo of " + what, bank.undo(), 0);
        DUE.same("all behind the undo of " + what, Look.through(bank), Look.through(ready()));
    }

    private static void undoOfEachCall() {
        DUE.sentence("Each call of enter(), leave(), back(), waits(), step(), unload() and swap() that did something "
                + "[..] can be undone");
        undoing("enter", bank -> bank.enter(1), 2);
        undoing("leave", bank -> bank.leave(0), 1);
        undoing("back", bank -> bank.back(1), 0);
        undoing("waits", bank -> bank.waits(), 2);
        undoing("step", bank -> bank.step(), 0);
        undoing("unload", bank -> bank.unload(), 1);
        undoing("swap", bank -> bank.swap(), 2);
        undoing("runScript", bank -> Due.play(bank, "enter 1;wait 1;leave 1;swap;back 0;"), 5);
    }

    private static void undoNotOfNothing() {
        DUE.sentence("that did something");
        PaintBank bank = Due.with(COLORS + "lane 1;lane 1;rework 0 delay 0;" + BAD);
        bank.enter(0);
        DUE.none("enter", bank.enter(1));
        DUE.none("leave", bank.leave(0));
        DUE.none("leave of an empty lane", bank.leave(1));
        DUE.none("back", bank.back(1));
        DUE.none("step", bank.step());
        DUE.none("unload", bank.unload());
        DUE.none("swap", bank.swap());
        DUE.outside("enter(2)", () -> bank.enter(2));
        bank.ruleCost(300);
        bank.report();
        bank.save();
        DUE.same("undo of the only one", bank.undo(), 0);
        DUE.same("waiting", bank.waiting(), 1);
        DUE.none("undo of the others", bank.undo());
        PaintBank six = new PaintBank();
        for (int i = 0; i < 6; i++) {
            six.waits();
        }
        six.unload();
        six.swap();
        six.step();
        six.runScript();
        DUE.same("they push none out", six.undo(), 5);
        for (int left = 4; left >= 0; left--) {
            DUE.same("undo", six.undo(), left);
        }
        DUE.same("time", six.time(), 0);
    }

    private static void undoOfScripts() {
        DUE.sentence("each runScript() by which something was done can be undone");
        PaintBank bank = new PaintBank();
        Due.play(bank, "repeat 20 (repeat 5 (wait 1;););");
        bank.runScript();
        Due.play(bank, "enter 0;wait 1;");
        Due.type(bank, "wait 1;wait 0;");
        DUE.argument("an error", () -> bank.runScript());
        DUE.same("undo of 100 commands at once", bank.undo(), 0);
        DUE.same("time", bank.time(), 0);
        DUE.none("undo of the others", bank.undo());
    }

    private static void undoOfAll() {
        DUE.sentence("Everything but the buffer, the error, the latest report and the saved state is as before it "
                + "then.");
        String setup = COLORS + LANES + "batch 1 purge 5;rework 3 delay 2;car b body 0;" + CAR + BAD + BAD_TWICE
                + "car b body 1;" + CAR;
        PaintBank bank = Due.with(setup);
        PaintBank same = Due.with(setup);
        String script = "repeat 3 (enter 0;);leave 0;leave 0;enter 1;leave 1;wait 1;leave 0;";
        Due.play(bank, script);
        Due.play(same, script);
        Due.play(bank, "swap;wait 3;back 0;enter 1;leave 1;enter 1;step 99;");
        DUE.same("all are out", bank.outCount(), 6);
        bank.undo();
        DUE.same("all behind it", Look.through(bank), Look.through(same));
    }

    private static void undoLeaves() {
        DUE.sentence("Everything but the buffer, the error, the latest report and the saved state");
        PaintBank bank = Due.with("lane 1;");
        bank.waits();
        bank.waits();
        bank.save();
        bank.report();
        Due.type(bank, "wait 0;");
        DUE.argument("an error", () -> bank.runScript());
        Due.type(bank, "wait 7");
        DUE.same("undo", bank.undo(), 1);
        DUE.same("code", bank.errorCode(), 2);
        DUE.same("position", bank.errorPosition(), 5);
        DUE.same("report", Look.reported(bank), "lane 0\nout\n.");
        DUE.same("buffer", Look.buffered(bank), 6);
        DUE.same("time", bank.time(), 1);
        DUE.same("saved state", bank.restore(), 2);
    }

    private static void forgotten() {
        DUE.sentence("readSetup() and restore() forget them.");
        PaintBank setup = new PaintBank();
        setup.waits();
        setup.readSetup();
        DUE.none("undo behind readSetup", setup.undo());
        DUE.same("time", setup.time(), 0);
        PaintBank restored = new PaintBank();
        restored.waits();
        restored.save();
        restored.waits();
        restored.restore();
        DUE.none("undo behind restore", restored.undo());
        DUE.same("time", restored.time(), 1);
        restored.waits();
        DUE.same("one done behind it", restored.undo(), 0);
        DUE.same("time then", restored.time(), 1);
    }

    private static void notForgotten() {
        DUE.sentence("A call that throws an exception changes nothing");
        PaintBank bank = new PaintBank();
        bank.waits();
        bank.waits();
        DUE.state("restore of nothing", () -> bank.restore());
        Due.type(bank, "lane 7;");
        DUE.argument("readSetup", () -> bank.readSetup());
        Due.type(bank, "lane 7;");
        DUE.argument("runScript", () -> bank.runScript());
        bank.save();
        bank.report();
        DUE.same("undo", bank.undo(), 1);
        DUE.same("undo again", bank.undo(), 0);
        DUE.same("time", bank.time(), 0);
    }

    // ---- a saved state

    private static void saveAnswers() {
        DUE.sentence("Saves everything [..] @return the time");
        PaintBank bank = new PaintBank();
        DUE.same("at 0", bank.save(), 0);
        DUE.same("restored", bank.restore(), 0);
        bank.waits();
        DUE.same("at 1", bank.save(), 1);
        Due.play(bank, "repeat 20 (repeat 5 (wait 99;););");
        Due.play(bank, "wait 98;");
        DUE.same("at 9999", bank.save(), 9999);
        bank.readSetup();
        DUE.same("restored at 9999", bank.restore(), 9999);
        DUE.none("waits then", bank.waits());
    }

    private static void saveInPlace() {
        DUE.sentence("in place of an earlier one");
        PaintBank bank = new PaintBank();
        bank.save();
        bank.waits();
        bank.save();
        bank.waits();
        DUE.same("the later one", bank.restore(), 1);
        bank.undo();
        DUE.same("it is the only one", bank.restore(), 1);
    }

    private static void saveOfAll() {
        DUE.sentence("Saves everything but the buffer, the error, the report, what can be undone and the saved state");
        String setup = "color mint change 9;color red change 8;lane 6;lane 2;window 5 6;batch 1 purge 7;"
                + "rework 2 delay 4;span 3;car red body 3 bad 2;car mint body 3;car red body 0;car mint body 0;";
        PaintBank bank = after(setup, "swap;enter 0;leave 0;enter 1;enter 0;leave 1;");
        String want = Look.at(after(setup, "swap;enter 0;leave 0;enter 1;enter 0;leave 1;"));
        bank.save();
        Due.type(bank, COLORS + "lane 1;" + CAR + CAR + CAR);
        bank.readSetup();
        Due.play(bank, "repeat 3 (enter 0;leave 0;);");
        bank.restore();
        DUE.same("all of it", Look.at(bank), want);
        PaintBank names = Due.with(setup);
        Due.play(names, "enter 1;");
        names.save();
        Due.type(names, COLORS);
        names.readSetup();
        names.restore();
        report("the names", names, "lane 0\nlane 1 red3\nout\n");
    }

    private static void notSaved() {
        DUE.sentence("everything but the buffer, the error, the report, what can be undone and the saved state");
        PaintBank bank = Due.with("lane 1;");
        bank.report();
        bank.waits();
        bank.save();
        Due.type(bank, "lane 7;");
        DUE.argument("an error", () -> bank.readSetup());
        Due.type(bank, "lane 2;");
        bank.readSetup();
        Due.type(bank, "lane 7;");
        DUE.argument("an error again", () -> bank.readSetup());
        bank.truncate(0);
        bank.report();
        Due.type(bank, "wait 3");
        bank.restore();
        DUE.same("code", bank.errorCode(), 2);
        DUE.same("position", bank.errorPosition(), 5);
        DUE.same("report", Look.reported(bank), "lane 0\nout\n.");
        DUE.same("buffer", Look.buffered(bank), 6);
        DUE.none("undo", bank.undo());
        PaintBank kept = new PaintBank();
        kept.waits();
        kept.save();
        DUE.same("to save forgets nothing", kept.undo(), 0);
        DUE.same("time", kept.time(), 0);
        DUE.same("nor is what is saved undone", kept.restore(), 1);
    }

    private static void restoreNothing() {
        DUE.sentence("Throws IllegalStateException if nothing was saved");
        PaintBank bank = new PaintBank();
        DUE.state("at first", () -> bank.restore());
        bank.waits();
        bank.readSetup();
        DUE.state("behind a setup", () -> bank.restore());
        bank.save();
        DUE.same("behind a save", bank.restore(), 0);
        bank.readSetup();
        DUE.same("behind another setup", bank.restore(), 0);
    }

    private static void restoreStays() {
        DUE.sentence("Restores the saved state, which stays. Returns the time then.");
        PaintBank bank = after(COLORS + LANES + BAD + CAR, "enter 0;leave 0;");
        bank.save();
        for (int i = 0; i < 3; i++) {
            Due.play(bank, "enter 1;leave 1;wait 9;back 1;leave 1;");
            DUE.same("outCount", bank.outCount(), 2);
            DUE.same("restore", bank.restore(), 1);
            DUE.same("outCount restored", bank.outCount(), 0);
            DUE.same("rework restored", bank.inRework(0), 0);
            DUE.same("readyIn restored", bank.readyIn(), 3);
            DUE.same("logCount restored", bank.logCount(), 1);
        }
    }

    private static void restoreForgets() {
        DUE.sentence("readSetup() and restore() forget them.");
        PaintBank bank = new PaintBank();
        bank.save();
        for (int i = 0; i < 7; i++) {
            bank.waits();
        }
        bank.restore();
        DUE.none("undo", bank.undo());
        bank.waits();
        bank.waits();
        DUE.same("undo of what came then", bank.undo(), 1);
        DUE.same("undo of the first", bank.undo(), 0);
        DUE.none("undo of what was forgotten", bank.undo());
        DUE.same("time", bank.time(), 0);
    }
}
