/** Promises 53 to 59 and section 7: the log, reports, undo, and the saved state. */
public final class RecordTest {
    private static final Due DUE = new Due();
    private static final String SETUP = "color red change 5;color blueblue change 7;lane 6;lane 6;"
            + "car red body 1;car blueblue body 0 bad 1;car red body 3;car red body 2;car red body 0;"
            + "batch 2 purge 4;rework 2 delay 0;";

    public static void main(String[] args) {
        logging();
        loggingMany();
        reports();
        reportBytes();
        undoing();
        undoingSix();
        undoingEach();
        saving();
        savingSetups();
        DUE.end();
    }

    private static void entry(PaintBank bank, int i, int car, int color, int price, int bits) {
        DUE.same("log " + i + ", 0", bank.log(i, 0), car);
        DUE.same("log " + i + ", 1", bank.log(i, 1), color);
        DUE.same("log " + i + ", 2", bank.log(i, 2), price);
        DUE.same("log " + i + ", 3", bank.log(i, 3), bits);
    }

    private static void logging() {
        PaintBank bank = Due.with(SETUP);
        DUE.same("logCount at first", bank.logCount(), 0);
        DUE.outside("log of none", () -> bank.log(0, 0));
        DUE.outside("log of none, nothing", () -> bank.log(0, 9));
        Due.play(bank, "repeat 5 (enter 0;leave 0;);");
        DUE.same("logCount", bank.logCount(), 5);
        entry(bank, 0, 4, 0, 4, 2);
        entry(bank, 1, 3, 0, 0, 0);
        entry(bank, 2, 2, 0, 5, 1);
        entry(bank, 3, 1, 1, 7, 5);
        entry(bank, 4, 0, 0, 0, 0);
        DUE.outside("log of a sixth", () -> bank.log(5, 0));
        DUE.outside("log of -1", () -> bank.log(-1, 0));
        DUE.outside("log of the greatest", () -> bank.log(Integer.MAX_VALUE, 0));
        DUE.outside("log of the least", () -> bank.log(Integer.MIN_VALUE, 0));
        DUE.argument("log of a fifth number", () -> bank.log(0, 4));
        DUE.argument("log of number -1", () -> bank.log(4, -1));
        DUE.outside("both: the first one listed", () -> bank.log(5, 4));
        bank.undo();
        DUE.same("logCount undone", bank.logCount(), 0);

        PaintBank fails = Due.with("color a change 1;lane 6;batch 1 purge 6;rework 2 delay 0;"
                + "car a body 0;car a body 0 bad 1;");
        Due.play(fails, "repeat 2 (enter 0;leave 0;);");
        entry(fails, 0, 1, 0, 6, 6);
        PaintBank job = Due.with("color a change 1;color b change 1;lane 6;car b body 0;car a body 0;");
        Due.play(job, "swap;enter 0;leave 0;");
        entry(job, 0, 0, 0, 0, 0);
    }

    private static void loggingMany() {
        PaintBank bank = Due.with("color a change 1;lane 6;rework 3 delay 0;car a body 0 bad 2;"
                + "car a body 0 bad 2;car a body 0 bad 2;car a body 0 bad 2;car a body 0 bad 2;"
                + "car a body 0 bad 2;car a body 0 bad 2;car a body 0 bad 2;car a body 0 bad 2;"
                + "car a body 0 bad 2;car a body 0 bad 2;car a body 0 bad 2;");
        for (int i = 1; i <= 36; i++) {
            int before = bank.time();
            while (bank.time() == before) {
                bank.step();
            }
            DUE.same("logCount " + i, bank.logCount(), Math.min(i, 20));
        }
        DUE.same("all are out", bank.outCount(), 12);
        DUE.outside("log of a 21st", () -> bank.log(20, 0));
        DUE.same("the latest", bank.log(0, 0), bank.out(11));
        int[] cars = new int[20];
        for (int i = 0; i < 20; i++) {
            cars[i] = bank.log(i, 0);
        }
        DUE.same("undo of a painting", bank.undo(), 5);
        DUE.same("logCount undone", bank.logCount(), 20);
        for (int i = 1; i < 20; i++) {
            DUE.same("log moves back " + i, bank.log(i - 1, 0), cars[i]);
        }
    }

    private static void reports() {
        PaintBank bank = Due.with(SETUP);
        DUE.same("lanes without cars", Due.reported(bank), "lane 0\nlane 1\nout\n");
        Due.play(bank, "enter 1;enter 0;enter 1;");
        DUE.same("cars in lanes", Due.reported(bank), "lane 0 blueblue0\nlane 1 red1 red3\nout\n");
        Due.play(bank, "leave 1;leave 0;leave 1;");
        DUE.same("cars out, one in rework", Due.reported(bank), "lane 0\nlane 1\nout red1 red3\n");
        DUE.same("report", bank.report(), 28);
        DUE.same("without lanes", Due.reported(new PaintBank()), "out\n");
        PaintBank job = Due.with("color x change 1;color y change 1;lane 1;lane 1;lane 1;lane 1;"
                + "car y body 0;car x body 0;");
        Due.play(job, "swap;enter 3;enter 2;");
        DUE.same("the present jobs", Due.reported(job), "lane 0\nlane 1\nlane 2 y0\nlane 3 x0\nout\n");
        PaintBank most = Due.with("color aaaaaaaa change 1;color zzzzzzzz change 1;lane 1;lane 1;lane 6;"
                + "lane 6;" + "car aaaaaaaa body 3;".repeat(6) + "car zzzzzzzz body 2;".repeat(6));
        Due.play(most, "repeat 6 (enter 2;);repeat 6 (enter 3;);");
        DUE.same("the longest report", Due.reported(most), "lane 0\nlane 1\nlane 2"
                + " aaaaaaaa3".repeat(6) + "\nlane 3" + " zzzzzzzz2".repeat(6) + "\nout\n");
        DUE.same("its length", most.report(), 152);
        Due.play(most, "unload;");
        DUE.same("all out", Due.reported(most), "lane 0\nlane 1\nlane 2\nlane 3\nout"
                + " aaaaaaaa3".repeat(6) + " zzzzzzzz2".repeat(6) + "\n");
    }

    private static void reportBytes() {
        PaintBank bank = Due.with(SETUP);
        DUE.outside("no report", () -> bank.reportByte(0));
        DUE.same("report", bank.report(), 18);
        DUE.same("byte 0", bank.reportByte(0), 'l');
        DUE.same("byte 4", bank.reportByte(4), ' ');
        DUE.same("byte 5", bank.reportByte(5), '0');
        DUE.same("byte 6", bank.reportByte(6), '\n');
        DUE.same("byte 17", bank.reportByte(17), '\n');
        for (int i : new int[] {18, -1, 152, 1000, Integer.MIN_VALUE, Integer.MAX_VALUE}) {
            DUE.outside("byte " + i, () -> bank.reportByte(i));
        }
        bank.enter(1);
        DUE.same("the report is not written anew by itself", bank.reportByte(13), '\n');
        DUE.outside("nor is it longer", () -> bank.reportByte(18));
        bank.undo();
        bank.save();
        bank.report();
        bank.waits();
        bank.restore();
        DUE.same("a report outlives a restore", bank.reportByte(5), '0');
        bank.readSetup();
        DUE.same("and a setup", bank.reportByte(5), '0');
        DUE.same("a shorter one", bank.report(), 4);
        DUE.outside("its end", () -> bank.reportByte(4));
        PaintBank undone = Due.with(SETUP);
        undone.enter(0);
        undone.report();
        undone.undo();
        DUE.same("a report outlives an undo", undone.reportByte(7), 'r');
    }

    private static void undoing() {
        PaintBank bank = Due.with(SETUP);
        DUE.same("undo of nothing", bank.undo(), -1);
        bank.enter(0);
        bank.leave(0);
        bank.enter(0);
        bank.leave(0);
        DUE.same("undo of a painting that failed", bank.undo(), 3);
        DUE.same("bad", bank.bad(1), 1);
        DUE.same("rework", bank.inRework(0), -1);
        DUE.same("readyIn", bank.readyIn(), -1);
        DUE.same("hose", bank.hose(), 0);
        DUE.same("run", bank.run(), 1);
        DUE.same("changes", bank.changes(), 0);
        DUE.same("cost", bank.cost(), 0);
        DUE.same("time", bank.time(), 1);
        DUE.same("in the lane", bank.inLane(0, 0), 1);
        DUE.same("undo of an enter", bank.undo(), 2);
        DUE.same("waiting", bank.waiting(), 4);
        DUE.same("undo of a leave", bank.undo(), 1);
        DUE.same("hose without a color", bank.hose(), -1);
        DUE.same("run of none", bank.run(), 0);
        DUE.same("undo of the first", bank.undo(), 0);
        DUE.same("undo when all is undone", bank.undo(), -1);
        DUE.same("waiting then", bank.waiting(), 5);
        // What is kept no more is not there again, and what was not done is not kept.
        bank.leave(0);
        bank.back(0);
        bank.unload();
        DUE.same("calls that did nothing", bank.undo(), -1);
        bank.enter(1);
        bank.leave(0);
        DUE.same("one that did something", bank.undo(), 0);
        // The buffer and the error stay.
        bank.waits();
        Due.type(bank, "wait 0;");
        DUE.argument("an error", () -> bank.runScript());
        Due.type(bank, "wait 7;");
        DUE.same("undo", bank.undo(), 0);
        DUE.same("the error stays", bank.errorCode(), 2);
        DUE.same("the buffer stays", bank.runScript(), 1);
        DUE.same("time of it", bank.time(), 7);
        bank.readSetup();
        DUE.same("readSetup forgets", bank.undo(), -1);
    }

    private static void undoingSix() {
        PaintBank bank = new PaintBank();
        for (int i = 0; i < 9; i++) {
            bank.waits();
        }
        for (int left = 5; left >= 0; left--) {
            DUE.same("undo to " + left, bank.undo(), left);
            DUE.same("time", bank.time(), 3 + left);
        }
        DUE.same("a seventh", bank.undo(), -1);
        DUE.same("time stays", bank.time(), 3);
        for (int i = 0; i < 4; i++) {
            bank.waits();
        }
        DUE.same("undo among four", bank.undo(), 3);
        for (int i = 0; i < 3; i++) {
            bank.waits();
        }
        // A script that does nothing must not push the oldest one out.
        Due.play(bank, "leave 0;");
        bank.unload();
        bank.swap();
        for (int left = 5; left >= 0; left--) {
            DUE.same("undo again to " + left, bank.undo(), left);
        }
        DUE.same("back at 3", bank.time(), 3);
    }

    private static void undoingEach() {
        PaintBank bank = Due.with("color a change 1;color b change 2;lane 3;lane 3;rework 1 delay 0;"
                + "car b body 0 bad 1;car a body 0;car b body 0;");
        DUE.same("swap", bank.swap(), 2);
        DUE.same("enter", bank.enter(0), 0);
        DUE.same("leave", bank.leave(0), 0);
        DUE.same("back", bank.back(1), 0);
        DUE.same("step", bank.step(), 1);
        DUE.same("unload", bank.unload(), 2);
        DUE.same("undo unload", bank.undo(), 5);
        DUE.same("both lanes", bank.laneLength(0) * 10 + bank.laneLength(1), 11);
        DUE.same("undo step", bank.undo(), 4);
        DUE.same("waiting", bank.waiting(), 2);
        DUE.same("undo back", bank.undo(), 3);
        DUE.same("rework", bank.inRework(0), 0);
        DUE.same("readyIn", bank.readyIn(), 0);
        DUE.same("undo leave", bank.undo(), 2);
        DUE.same("bad", bank.bad(0), 1);
        DUE.same("undo enter", bank.undo(), 1);
        DUE.same("undo swap", bank.undo(), 0);
        DUE.same("colorOf 0", bank.colorOf(0), 1);
        bank.waits();
        DUE.same("undo waits", bank.undo(), 0);
        DUE.same("time", bank.time(), 0);
        // The searches know of it.
        Due.play(bank, "enter 0;enter 1;");
        DUE.same("unloadChanges", bank.unloadChanges(), 1);
        bank.undo();
        DUE.same("unloadChanges undone", bank.unloadChanges(), 0);
        DUE.same("swapChanges undone", bank.swapChanges(), 1);
    }

    private static void saving() {
        PaintBank bank = Due.with(SETUP);
        DUE.state("nothing is saved", () -> bank.restore());
        bank.enter(0);
        bank.leave(0);
        DUE.same("save answers the time", bank.save(), 1);
        Due.play(bank, "enter 0;enter 1;leave 1;wait 5;");
        Due.type(bank, "wait 9;");
        DUE.same("restore answers the time", bank.restore(), 1);
        DUE.same("time", bank.time(), 1);
        DUE.same("waiting", bank.waiting(), 4);
        DUE.same("outCount", bank.outCount(), 1);
        DUE.same("logCount", bank.logCount(), 1);
        DUE.same("restore forgets what can be undone", bank.undo(), -1);
        DUE.same("the buffer stays", bank.runScript(), 1);
        DUE.same("time of it", bank.time(), 10);
        DUE.same("the saved state stays", bank.restore(), 1);
        bank.waits();
        DUE.same("a save in place of it", bank.save(), 2);
        DUE.same("a save forgets nothing", bank.undo(), 0);
        bank.waits();
        bank.waits();
        bank.undo();
        DUE.same("the later one", bank.restore(), 2);
        Due.type(bank, "lane 9;");
        DUE.argument("an error", () -> bank.readSetup());
        bank.restore();
        DUE.same("the error stays", bank.errorCode(), 2);
        DUE.same("and its position", bank.errorPosition(), 5);
    }

    private static void savingSetups() {
        PaintBank bank = Due.with(SETUP);
        bank.enter(1);
        bank.save();
        Due.type(bank, "color x change 1;lane 1;car x body 0;window 1 2;batch 3 purge 4;"
                + "rework 3 delay 4;span 5;");
        bank.readSetup();
        Due.play(bank, "step 2;");
        bank.restore();
        int[] want = {2, 2, 5, 11, 11, 2, 4, 2, 0, 2};
        for (int what = 0; what < want.length; what++) {
            DUE.same("setting " + what + " restored", bank.setting(what), want[what]);
        }
        DUE.same("changeCost restored", bank.changeCost(1), 7);
        DUE.same("room restored", bank.room(0), 6);
        DUE.same("body restored", bank.body(2), 3);
        DUE.same("bad restored", bank.bad(1), 1);
        DUE.same("colorOf restored", bank.colorOf(1), 1);
        DUE.same("names restored", Due.reported(bank), "lane 0\nlane 1 red1\nout\n");
        DUE.same("waiting restored", bank.waiting(), 4);
        DUE.same("unloadLane restored", bank.unloadLane(0), 1);
        bank.swap();
        bank.restore();
        DUE.same("jobs restored", bank.colorOf(1), 1);
        DUE.same("the searches know of it", bank.swapChanges(), 1);
    }
}
