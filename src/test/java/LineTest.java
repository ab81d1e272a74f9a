/** Promises 16 to 37: where cars are, painting, and what is done one by one. */
public final class LineTest {
    private static final Due DUE = new Due();
    private static final String SETUP = "color red change 5;color blue change 7;lane 2;lane 3;"
            + "car red body 0;car blue body 0;car red body 0;car red body 0 bad 1;car blue body 0;"
            + "car red body 0;rework 1 delay 2;batch 2 purge 4;";

    public static void main(String[] args) {
        entering();
        leaving();
        tooEarly();
        reworking();
        painting();
        purging();
        waiting();
        lastTime();
        moves();
        batches();
        wrongNumbers();
        DUE.end();
    }

    private static void entering() {
        PaintBank bank = Due.with(SETUP);
        DUE.same("waiting at first", bank.waiting(), 6);
        DUE.same("where 0 at first", bank.where(0), 0);
        DUE.same("enter lane 1", bank.enter(1), 0);
        DUE.same("enter lane 0", bank.enter(0), 1);
        DUE.same("enter lane 1 again", bank.enter(1), 2);
        DUE.same("enter lane 0 again", bank.enter(0), 3);
        DUE.same("enter a full lane", bank.enter(0), -1);
        DUE.same("waiting", bank.waiting(), 2);
        DUE.same("laneLength 0", bank.laneLength(0), 2);
        DUE.same("laneLength 1", bank.laneLength(1), 2);
        DUE.same("inLane 1, 0", bank.inLane(1, 0), 0);
        DUE.same("inLane 1, 1", bank.inLane(1, 1), 2);
        DUE.same("inLane 1, 2", bank.inLane(1, 2), -1);
        DUE.same("inLane 1, -1", bank.inLane(1, -1), -1);
        DUE.same("inLane 0, 0", bank.inLane(0, 0), 1);
        DUE.same("where 3", bank.where(3), 1);
        DUE.same("where 4", bank.where(4), 0);
        DUE.same("entering takes no time", bank.time(), 0);
        DUE.same("enter the last place", bank.enter(1), 4);
        DUE.same("enter lane 1 when full", bank.enter(1), -1);
        bank.leave(1);
        DUE.same("enter the place that is free again", bank.enter(1), 5);
        bank.leave(1);
        DUE.same("enter when none waits", bank.enter(1), -1);
        DUE.same("waiting at last", bank.waiting(), 0);
    }

    private static void leaving() {
        PaintBank bank = Due.with(SETUP);
        DUE.no("canLeave an empty lane", bank.canLeave(0));
        DUE.same("leave an empty lane", bank.leave(0), -1);
        bank.enter(1);
        bank.enter(1);
        bank.enter(0);
        DUE.yes("canLeave lane 1", bank.canLeave(1));
        DUE.same("leave lane 1", bank.leave(1), 0);
        DUE.same("inLane moved up", bank.inLane(1, 0), 1);
        DUE.same("laneLength 1", bank.laneLength(1), 1);
        DUE.same("leave lane 0", bank.leave(0), 2);
        DUE.same("leave lane 1 then", bank.leave(1), 1);
        DUE.same("outCount", bank.outCount(), 3);
        DUE.same("out 0", bank.out(0), 0);
        DUE.same("out 1", bank.out(1), 2);
        DUE.same("out 2", bank.out(2), 1);
        DUE.same("out 3", bank.out(3), -1);
        DUE.same("out -1", bank.out(-1), -1);
        DUE.same("where 2", bank.where(2), 3);
        DUE.same("time", bank.time(), 3);
    }

    private static void tooEarly() {
        PaintBank bank = Due.with("color a change 1;lane 1;lane 1;lane 1;lane 1;window 1 0;"
                + "car a body 0;car a body 0;car a body 0;car a body 0 bad 1;");
        Due.play(bank, "enter 0;enter 1;enter 2;enter 3;");
        DUE.yes("car 0", bank.canLeave(0));
        DUE.yes("car 1, one place early", bank.canLeave(1));
        DUE.no("car 2, two places early", bank.canLeave(2));
        DUE.same("it does not leave", bank.leave(2), -1);
        DUE.yes("car 3 fails: it may be too early", bank.canLeave(3));
        bank.leave(1);
        DUE.yes("car 2 with one out", bank.canLeave(2));
        DUE.same("car 3 fails", bank.leave(3), 3);
        DUE.same("one is out still", bank.outCount(), 1);
        DUE.same("it waits for rework", bank.where(3), 2);
    }

    private static void reworking() {
        PaintBank bank = Due.with(SETUP);
        DUE.same("readyIn an empty rework lane", bank.readyIn(), -1);
        DUE.same("back from an empty rework lane", bank.back(0), -1);
        Due.play(bank, "enter 0;enter 0;leave 0;enter 1;enter 1;leave 0;leave 1;");
        DUE.same("time before", bank.time(), 3);
        DUE.yes("a failing car can leave", bank.canLeave(1));
        DUE.same("leave to rework", bank.leave(1), 3);
        DUE.same("bad then", bank.bad(3), 0);
        DUE.same("where then", bank.where(3), 2);
        DUE.same("inRework 0", bank.inRework(0), 3);
        DUE.same("inRework 1", bank.inRework(1), -1);
        DUE.same("inRework -1", bank.inRework(-1), -1);
        DUE.same("outCount then", bank.outCount(), 3);
        DUE.same("readyIn", bank.readyIn(), 2);
        DUE.same("back too early", bank.back(0), -1);
        bank.waits();
        DUE.same("readyIn then", bank.readyIn(), 1);
        DUE.same("back too early again", bank.back(0), -1);
        bank.waits();
        DUE.same("readyIn at last", bank.readyIn(), 0);
        bank.waits();
        DUE.same("readyIn later", bank.readyIn(), 0);
        Due.play(bank, "enter 0;enter 0;");
        DUE.same("back into a full lane", bank.back(0), -1);
        DUE.same("back", bank.back(1), 3);
        DUE.same("where behind it", bank.where(3), 1);
        DUE.same("inLane behind it", bank.inLane(1, 0), 3);
        DUE.same("rework is empty", bank.inRework(0), -1);
        DUE.same("leave at last", bank.leave(1), 3);
        DUE.same("out at last", bank.out(3), 3);

        PaintBank full = Due.with("color a change 1;lane 3;lane 3;rework 1 delay 0;"
                + "car a body 0 bad 2;car a body 0 bad 1;car a body 0;");
        Due.play(full, "enter 0;enter 1;enter 1;leave 0;");
        DUE.no("canLeave when the rework lane is full", full.canLeave(1));
        DUE.same("leave when the rework lane is full", full.leave(1), -1);
        DUE.same("ready at once with no delay", full.readyIn(), 0);
        DUE.same("back at once", full.back(1), 0);
        DUE.same("it comes behind the others", full.inLane(1, 2), 0);
        DUE.same("the next fails", full.leave(1), 1);
        full.leave(1);
        full.back(0);
        DUE.same("it fails a second time", full.leave(1), 0);
        DUE.same("with one failure gone", full.bad(0), 0);

        PaintBank none = Due.with("color a change 1;lane 3;rework 0 delay 0;car a body 0 bad 1;");
        none.enter(0);
        DUE.no("canLeave without a rework lane", none.canLeave(0));
        DUE.same("leave without a rework lane", none.leave(0), -1);

        PaintBank two = Due.with("color a change 1;lane 3;lane 3;rework 2 delay 9;"
                + "car a body 0 bad 1;car a body 0 bad 1;");
        Due.play(two, "enter 0;enter 0;leave 0;leave 0;");
        DUE.same("the first of two", two.inRework(0), 0);
        DUE.same("the second of two", two.inRework(1), 1);
        DUE.same("readyIn of the first", two.readyIn(), 8);
        Due.play(two, "wait 8;back 1;");
        DUE.same("the second is the first then", two.inRework(0), 1);
        DUE.same("readyIn of the second", two.readyIn(), 1);
    }

    private static void painting() {
        PaintBank bank = Due.with(SETUP);
        Due.play(bank, "enter 0;enter 0;enter 1;");
        bank.leave(0);
        DUE.same("hose of the first car", bank.hose(), 0);
        DUE.same("run of the first car", bank.run(), 1);
        DUE.same("changes of the first car", bank.changes(), 0);
        DUE.same("cost of the first car", bank.cost(), 0);
        DUE.same("time of the first car", bank.time(), 1);
        bank.leave(0);
        DUE.same("hose changed", bank.hose(), 1);
        DUE.same("run changed", bank.run(), 1);
        DUE.same("changes changed", bank.changes(), 1);
        DUE.same("cost of blue", bank.cost(), 7);
        bank.leave(1);
        DUE.same("hose back", bank.hose(), 0);
        DUE.same("changes", bank.changes(), 2);
        DUE.same("cost of red", bank.cost(), 12);
        DUE.same("purges", bank.purges(), 0);
        bank.enter(1);
        bank.leave(1);
        DUE.same("a painting that fails counts for the run", bank.run(), 2);
        DUE.same("and for the time", bank.time(), 4);
        DUE.same("and the hose", bank.hose(), 0);
    }

    private static void purging() {
        PaintBank bank = Due.with("color a change 5;color b change 3;lane 6;batch 2 purge 4;"
                + "car a body 0;car a body 0;car a body 0;car a body 0;car a body 0;car b body 0;");
        Due.play(bank, "repeat 6 (enter 0;);");
        int[] runs = {1, 2, 1, 2, 1, 1};
        int[] purges = {0, 0, 1, 1, 2, 2};
        int[] costs = {0, 0, 4, 4, 8, 11};
        for (int i = 0; i < runs.length; i++) {
            bank.leave(0);
            DUE.same("run " + i, bank.run(), runs[i]);
            DUE.same("purges " + i, bank.purges(), purges[i]);
            DUE.same("cost " + i, bank.cost(), costs[i]);
        }
        DUE.same("changes", bank.changes(), 1);
        PaintBank one = Due.with("color a change 5;lane 6;batch 1 purge 3;car a body 0;car a body 0;"
                + "car a body 0;");
        Due.play(one, "repeat 3 (enter 0;leave 0;);");
        DUE.same("purges with a batch of 1", one.purges(), 2);
        DUE.same("run with a batch of 1", one.run(), 1);
        PaintBank nine = Due.with("color a change 5;lane 6;car a body 0;car a body 0;car a body 0;"
                + "car a body 0;car a body 0;car a body 0;car a body 0;car a body 0;car a body 0;"
                + "car a body 0;");
        Due.play(nine, "repeat 9 (enter 0;leave 0;);");
        DUE.same("run of 9", nine.run(), 9);
        DUE.same("no purge with 9", nine.purges(), 0);
        Due.play(nine, "enter 0;leave 0;");
        DUE.same("a purge with 10", nine.purges(), 1);
        DUE.same("which costs nothing", nine.cost(), 0);
        DUE.same("run then", nine.run(), 1);
    }

    private static void waiting() {
        PaintBank bank = new PaintBank();
        DUE.same("waits", bank.waits(), 1);
        DUE.same("waits again", bank.waits(), 2);
        DUE.same("time", bank.time(), 2);
        DUE.same("hose", bank.hose(), -1);
    }

    private static void lastTime() {
        PaintBank bank = Due.with("color a change 5;lane 6;rework 1 delay 9;car a body 0 bad 1;"
                + "car a body 0;car a body 0;");
        Due.play(bank, "enter 0;enter 0;enter 0;");
        DUE.same("100 commands", Due.play(bank, "repeat 20 (repeat 20 (wait 99;););"), 100);
        DUE.same("9900", bank.time(), 9900);
        DUE.same("98 more", Due.play(bank, "wait 98;"), 1);
        DUE.yes("canLeave at 9998", bank.canLeave(0));
        DUE.same("leave at 9998", bank.leave(0), 0);
        DUE.same("time", bank.time(), 9999);
        DUE.same("readyIn beyond the end of time", bank.readyIn(), 9);
        DUE.no("canLeave at 9999", bank.canLeave(0));
        DUE.same("leave at 9999", bank.leave(0), -1);
        DUE.same("waits at 9999", bank.waits(), -1);
        DUE.same("time stays", bank.time(), 9999);
        DUE.same("step at 9999", bank.step(), -1);
        DUE.same("unload at 9999", bank.unload(), -1);
        DUE.same("unloadCost does not mind", bank.unloadCost(), 0);
        DUE.same("wait at 9999", Due.play(bank, "wait 1;"), 0);
        bank.undo();
        DUE.same("undone", bank.time(), 9998);
        DUE.same("waits at 9998", bank.waits(), 9999);

        PaintBank part = Due.with("lane 1;");
        Due.play(part, "repeat 20 (repeat 20 (wait 99;););");
        DUE.same("wait 99 and a part", Due.play(part, "wait 50;wait 50;wait 1;"), 1);
        DUE.same("the part stays", part.time(), 9999);
        DUE.same("and is undone with the rest", part.undo(), 1);
        DUE.same("time then", part.time(), 9900);
        Due.play(part, "wait 98;");
        DUE.same("a part alone", Due.play(part, "wait 2;"), 0);
        DUE.same("it stays, too", part.time(), 9999);
        DUE.same("and is undone, though not counted", part.undo(), 2);
        DUE.same("time before it", part.time(), 9998);
    }

    private static void moves() {
        PaintBank bank = Due.with("color a change 5;lane 6;lane 6;window 11 1;car a body 0;car a body 0;"
                + "car a body 0;car a body 0;car a body 0;");
        Due.play(bank, "enter 0;enter 0;enter 1;enter 1;enter 1;");
        DUE.state("move of a car in a lane", () -> bank.move(0));
        DUE.same("late at first", bank.late(), 0);
        Due.play(bank, "leave 1;leave 0;leave 1;");
        DUE.same("move 2", bank.move(2), -2);
        DUE.same("move 0", bank.move(0), 1);
        DUE.same("move 3", bank.move(3), -1);
        DUE.state("move of a car still in a lane", () -> bank.move(1));
        DUE.same("late with 1 back allowed", bank.late(), 0);
        Due.play(bank, "leave 0;leave 1;");
        DUE.same("move 1", bank.move(1), 2);
        DUE.same("move 4", bank.move(4), 0);
        DUE.same("late", bank.late(), 1);

        PaintBank strict = Due.with("color a change 5;lane 6;lane 6;window 11 0;car a body 0;"
                + "car a body 0;car a body 0;car a body 0;");
        DUE.state("move of a car that waits", () -> strict.move(3));
        Due.play(strict, "enter 0;enter 0;enter 1;enter 0;leave 1;leave 0;leave 0;leave 0;");
        DUE.same("two are late", strict.late(), 2);
    }

    private static void batches() {
        PaintBank bank = Due.with("color a change 1;color b change 1;lane 6;lane 6;car a body 0;"
                + "car b body 0;car b body 0;car a body 0;car b body 0;car a body 0;car a body 0;"
                + "car a body 0;");
        DUE.same("longestBatch of none", bank.longestBatch(), 0);
        int[] want = {1, 1, 2, 2, 2, 2, 2, 3};
        for (int i = 0; i < want.length; i++) {
            Due.play(bank, "enter 0;leave 0;");
            DUE.same("longestBatch of " + (i + 1), bank.longestBatch(), want[i]);
        }
        PaintBank long4 = Due.with("color a change 1;color b change 1;lane 6;batch 2 purge 1;"
                + "car a body 0;car a body 0;car a body 0;car b body 0;");
        Due.play(long4, "step 8;");
        DUE.same("a purge does not end a batch that is out", long4.longestBatch(), 3);
    }

    private static void wrongNumbers() {
        PaintBank bank = Due.with(SETUP);
        for (int i : new int[] {-1, 2, 3, 4, 5, Integer.MIN_VALUE, Integer.MAX_VALUE}) {
            DUE.outside("laneLength " + i, () -> bank.laneLength(i));
            DUE.outside("inLane " + i, () -> bank.inLane(i, 0));
            DUE.outside("canLeave " + i, () -> bank.canLeave(i));
            DUE.outside("enter " + i, () -> bank.enter(i));
            DUE.outside("leave " + i, () -> bank.leave(i));
            DUE.outside("back " + i, () -> bank.back(i));
        }
        for (int i : new int[] {-1, 6, 11, 12, 13, Integer.MIN_VALUE, Integer.MAX_VALUE}) {
            DUE.outside("where " + i, () -> bank.where(i));
            DUE.outside("move " + i, () -> bank.move(i));
        }
        for (int i : new int[] {-1, 12, Integer.MIN_VALUE, Integer.MAX_VALUE}) {
            DUE.same("inLane 0, " + i, bank.inLane(0, i), -1);
            DUE.same("inRework " + i, bank.inRework(i), -1);
            DUE.same("out " + i, bank.out(i), -1);
        }
        DUE.same("nothing was kept of them", bank.undo(), -1);
        DUE.same("waiting", bank.waiting(), 6);
    }
}
