import java.util.function.Consumer;
import java.util.function.IntUnaryOperator;
import java.util.function.ToIntFunction;

/** The edges of section 2 and of promises 16 to 37: where cars are, painting, and what is done. */
public final class LineEdgeTest {
    private static final Due DUE = new Due();
    private static final String COLORS = "color a change 99;color b change 0;color c change 5;";
    private static final String CAR = "car a body 0;";
    private static final String BAD = "car a body 0 bad 1;";
    private static final String TWELVE = COLORS + "lane 6;lane 6;lane 6;lane 6;" + CAR.repeat(12);
    private static final int[] FAR = {Integer.MIN_VALUE, Integer.MAX_VALUE};

    public static void main(String[] args) {
        atFirst();
        enterRoom();
        enterNone();
        enterBehind();
        leaveEmpty();
        leaveToRework();
        leaveTooEarly();
        leaveTooEarlyAsItFails();
        hoseWithoutColor();
        hoseOfAnotherColor();
        runAndBatch();
        timeOfPainting();
        failuresDecrease();
        outBehind();
        backInOrder();
        backWhenReady();
        backRoom();
        backNone();
        lastTime();
        lastTimeOfALeave();
        lastTimeOfOthers();
        moves();
        movesOfOthers();
        lateByOne();
        lateCount();
        batchesOut();
        whereCars();
        waitingCars();
        laneNumbers();
        carNumbers();
        placesInLanes();
        placesInRework();
        placesOut();
        readyCount();
        hoseAndRun();
        nothingChanges();
        thrownChangesNothing();
        lastCall();
        DUE.end();
    }

    private static void play(PaintBank bank, String script) {
        Due.play(bank, script);
    }

    // ---- at first

    private static void atFirst() {
        DUE.sentence("At first all cars wait, lanes and the rework lane are empty, nothing is out, the hose "
                + "has no color, and time, changes, purges and cost are 0.");
        PaintBank bank = Due.with(TWELVE);
        DUE.same("waiting", bank.waiting(), 12);
        for (int car = 0; car < 12; car++) {
            DUE.same("where " + car, bank.where(car), 0);
        }
        for (int lane = 0; lane < 4; lane++) {
            DUE.same("laneLength " + lane, bank.laneLength(lane), 0);
            DUE.none("inLane " + lane, bank.inLane(lane, 0));
        }
        DUE.none("inRework", bank.inRework(0));
        DUE.same("outCount", bank.outCount(), 0);
        DUE.none("hose", bank.hose());
        DUE.same("run", bank.run(), 0);
        DUE.same("time", bank.time(), 0);
        DUE.same("changes", bank.changes(), 0);
        DUE.same("purges", bank.purges(), 0);
        DUE.same("cost", bank.cost(), 0);
        DUE.same("logCount", bank.logCount(), 0);
    }

    // ---- a car enters a lane

    private static void enterRoom() {
        DUE.sentence("the first one that waits comes behind the others of the lane, if there is room.");
        for (int room = 1; room <= 6; room++) {
            PaintBank bank = Due.with(COLORS + "lane " + room + ";" + CAR.repeat(7));
            for (int car = 0; car < room; car++) {
                DUE.same("enter a lane of " + room, bank.enter(0), car);
            }
            DUE.none("enter a full lane of " + room, bank.enter(0));
            DUE.same("laneLength", bank.laneLength(0), room);
            DUE.same("waiting", bank.waiting(), 7 - room);
            bank.leave(0);
            DUE.same("enter when one has left", bank.enter(0), room);
            DUE.none("and it is full again", bank.enter(0));
        }
    }

    private static void enterNone() {
        DUE.sentence("A car enters a lane: the first one that waits");
        PaintBank bank = Due.with(COLORS + "lane 6;lane 6;lane 1;" + CAR.repeat(12));
        for (int car = 0; car < 12; car++) {
            DUE.same("enter", bank.enter(car % 2), car);
        }
        DUE.none("enter when none waits", bank.enter(2));
        DUE.none("enter when there are no cars", Due.with("lane 1;").enter(0));
    }

    private static void enterBehind() {
        DUE.sentence("comes behind the others of the lane");
        PaintBank bank = Due.with(COLORS + "lane 6;" + CAR.repeat(6));
        for (int car = 0; car < 6; car++) {
            bank.enter(0);
            DUE.same("the last one", bank.inLane(0, car), car);
            DUE.same("the first one", bank.inLane(0, 0), 0);
        }
    }

    // ---- a car leaves a lane

    private static void leaveEmpty() {
        DUE.sentence("It cannot if the lane is empty");
        PaintBank bank = Due.with(COLORS + "lane 2;lane 2;" + CAR + CAR);
        DUE.no("canLeave at first", bank.canLeave(0));
        DUE.none("leave at first", bank.leave(0));
        bank.enter(0);
        DUE.no("canLeave the other lane", bank.canLeave(1));
        DUE.none("leave the other lane", bank.leave(1));
        DUE.yes("canLeave with one car", bank.canLeave(0));
        DUE.same("leave with one car", bank.leave(0), 0);
        DUE.no("canLeave behind it", bank.canLeave(0));
        DUE.none("leave behind it", bank.leave(0));
        DUE.same("time", bank.time(), 1);
    }

    private static void leaveToRework() {
        DUE.sentence("if painting it will fail and the rework lane has no room");
        for (int room = 0; room <= 3; room++) {
            PaintBank bank = Due.with(COLORS + "lane 6;lane 1;rework " + room + " delay 0;"
                    + BAD.repeat(4) + CAR);
            play(bank, "repeat 4 (enter 0;);enter 1;");
            for (int car = 0; car < room; car++) {
                DUE.yes("canLeave " + car + " of " + room, bank.canLeave(0));
                DUE.same("leave " + car + " of " + room, bank.leave(0), car);
            }
            DUE.no("canLeave beyond " + room, bank.canLeave(0));
            DUE.none("leave beyond " + room, bank.leave(0));
            DUE.yes("a car that does not fail can", bank.canLeave(1));
            DUE.same("and it does", bank.leave(1), 4);
            if (room > 0) {
                bank.back(1);
                DUE.yes("canLeave when there is room again", bank.canLeave(0));
            }
        }
    }

    private static void leaveTooEarly() {
        DUE.sentence("if painting it will not fail and it would be too early: its place in the sequence less "
                + "the number of cars that are out is greater than it may move ahead.");
        for (int ahead = 0; ahead <= 11; ahead++) {
            // Each car alone at the head of a lane is not to be had: the last one of the row is.
            for (int car = 0; car < 12; car += 3) {
                PaintBank bank = firstOut(car, ahead);
                int out = 0;
                while (car - out > ahead) {
                    DUE.no(car + " with " + out + " out, ahead " + ahead, bank.canLeave(3));
                    DUE.none("leave " + car, bank.leave(3));
                    int lane = bank.leave(0) != PaintBank.NONE ? 0 : 1;
                    if (lane == 1) {
                        bank.leave(1);
                    }
                    out++;
                    DUE.same("outCount", bank.outCount(), out);
                }
                DUE.yes(car + " with " + out + " out, ahead " + ahead, bank.canLeave(3));
                DUE.same("leave " + car, bank.leave(3), car);
            }
        }
    }

    /** A car stands alone in lane 3, those before it stand in lanes 0 and 1. */
    private static PaintBank firstOut(int car, int ahead) {
        PaintBank bank = Due.with(TWELVE + "window " + ahead + " 11;");
        for (int i = 0; i < car; i++) {
            bank.enter(i / 6);
        }
        bank.enter(3);
        return bank;
    }

    private static void leaveTooEarlyAsItFails() {
        DUE.sentence("if painting it will not fail and it would be too early");
        PaintBank bank = Due.with(COLORS + "lane 6;lane 6;window 0 0;rework 1 delay 0;" + CAR + BAD + CAR);
        play(bank, "enter 0;enter 1;enter 1;");
        DUE.yes("it fails, so it is not too early", bank.canLeave(1));
        DUE.same("leave", bank.leave(1), 1);
        DUE.no("car 2 is too early: the failed one is not out", bank.canLeave(1));
        bank.back(0);
        bank.leave(0);
        DUE.no("and it is still, with one out", bank.canLeave(1));
        DUE.yes("the failed one may go out now", bank.canLeave(0));
        bank.leave(0);
        DUE.yes("with two out it may", bank.canLeave(1));
    }

    // ---- painting

    private static void painted(String what, PaintBank bank, int hose, int run, int changes, int purges,
            int cost) {
        DUE.same(what + ": hose", bank.hose(), hose);
        DUE.same(what + ": run", bank.run(), run);
        DUE.same(what + ": changes", bank.changes(), changes);
        DUE.same(what + ": purges", bank.purges(), purges);
        DUE.same(what + ": cost", bank.cost(), cost);
    }

    private static void hoseWithoutColor() {
        DUE.sentence("if the hose has no color, it gets that of the car, and the run becomes 1.");
        PaintBank bank = Due.with(COLORS + "lane 6;batch 1 purge 50;" + CAR);
        bank.enter(0);
        painted("before", bank, -1, 0, 0, 0, 0);
        bank.leave(0);
        painted("behind", bank, 0, 1, 0, 0, 0);
        PaintBank last = Due.with(COLORS + "lane 6;car c body 0;");
        play(last, "enter 0;leave 0;");
        painted("the last color", last, 2, 1, 0, 0, 0);
    }

    private static void hoseOfAnotherColor() {
        DUE.sentence("If it has another color, it gets that of the car, changes increase by 1, the cost by what "
                + "a change to this color costs, and the run becomes 1.");
        PaintBank bank = Due.with(COLORS + "lane 6;batch 2 purge 50;" + CAR + CAR + "car b body 0;car c body 0;"
                + CAR);
        play(bank, "repeat 5 (enter 0;);leave 0;leave 0;");
        painted("a a", bank, 0, 2, 0, 0, 0);
        bank.leave(0);
        painted("to b, which costs 0, from a run as great as the batch", bank, 1, 1, 1, 0, 0);
        bank.leave(0);
        painted("to c", bank, 2, 1, 2, 0, 5);
        bank.leave(0);
        painted("to a, which costs 99", bank, 0, 1, 3, 0, 104);
        PaintBank most = Due.with("color a change 99;color b change 99;lane 6;lane 6;"
                + "car a body 0;car b body 0;".repeat(6));
        play(most, "repeat 12 (enter 0;leave 0;);");
        painted("the most changes", most, 1, 1, 11, 0, 1089);
    }

    private static void runAndBatch() {
        DUE.sentence("If it has the same color, and the run is as great as the batch, purges increase by 1, the "
                + "cost by what a purge costs, and the run becomes 1; otherwise the run increases by 1.");
        for (int batch = 1; batch <= 9; batch++) {
            PaintBank bank = Due.with(TWELVE + "batch " + batch + " purge 99;");
            for (int i = 0; i < 12; i++) {
                bank.enter(0);
                bank.leave(0);
                int purges = i / batch;
                painted("batch " + batch + ", car " + i, bank, 0, i % batch + 1, 0, purges, 99 * purges);
            }
        }
        PaintBank bank = Due.with(TWELVE);
        play(bank, "repeat 12 (enter 0;leave 0;);");
        painted("9 without it, which costs 0", bank, 0, 3, 0, 1, 0);
    }

    private static void timeOfPainting() {
        DUE.sentence("Then the time increases by 1.");
        PaintBank bank = Due.with(COLORS + "lane 6;batch 1 purge 1;rework 1 delay 9;" + CAR
                + "car b body 0;car b body 0;" + BAD);
        play(bank, "repeat 4 (enter 0;);");
        DUE.same("to enter takes no time", bank.time(), 0);
        for (int i = 1; i <= 4; i++) {
            bank.leave(0);
            DUE.same("time of painting " + i, bank.time(), i);
        }
    }

    private static void failuresDecrease() {
        DUE.sentence("If painting fails, the number of times that it will still fail decreases by 1, and the car "
                + "comes behind the others of the rework lane.");
        PaintBank bank = Due.with(COLORS + "lane 6;rework 3 delay 0;car a body 0 bad 2;" + BAD + BAD);
        play(bank, "repeat 3 (enter 0;);");
        int[] left = {1, 0, 0};
        for (int car = 0; car < 3; car++) {
            DUE.same("leave", bank.leave(0), car);
            DUE.same("bad " + car, bank.bad(car), left[car]);
            DUE.same("where " + car, bank.where(car), 2);
            DUE.same("the last in the rework lane", bank.inRework(car), car);
            DUE.same("the first in the rework lane", bank.inRework(0), 0);
            DUE.none("behind it", bank.inRework(car + 1));
            DUE.same("outCount", bank.outCount(), 0);
        }
        play(bank, "back 0;leave 0;");
        DUE.same("bad 0 behind the second painting", bank.bad(0), 0);
        DUE.same("it comes behind the others", bank.inRework(2), 0);
        play(bank, "repeat 3 (back 0;leave 0;);");
        DUE.same("all are out", bank.outCount(), 3);
        DUE.same("bad 0 when it is out", bank.bad(0), 0);
    }

    private static void outBehind() {
        DUE.sentence("Otherwise it goes out, behind the others that are out.");
        PaintBank bank = Due.with(TWELVE);
        play(bank, "repeat 6 (enter 0;);repeat 6 (enter 1;);repeat 6 (leave 1;leave 0;);");
        for (int i = 0; i < 12; i++) {
            DUE.same("out " + i, bank.out(i), i % 2 == 0 ? 6 + i / 2 : i / 2);
        }
    }

    // ---- a car comes back

    private static void backInOrder() {
        DUE.sentence("A car comes back: the first one of the rework lane comes behind the others of a lane.");
        PaintBank bank = Due.with(COLORS + "lane 6;lane 6;rework 3 delay 0;" + BAD.repeat(3) + CAR);
        play(bank, "repeat 4 (enter 0;);repeat 3 (leave 0;);");
        for (int i = 0; i < 3; i++) {
            DUE.same("back", bank.back(0), i);
            DUE.same("where", bank.where(i), 1);
            DUE.same("behind the others", bank.inLane(0, i + 1), i);
            DUE.same("the next one", bank.inRework(0), i < 2 ? i + 1 : -1);
        }
        DUE.same("the first in the lane", bank.inLane(0, 0), 3);
    }

    private static void backWhenReady() {
        DUE.sentence("It is ready if the time is at least the time behind its painting plus the delay. It cannot "
                + "come back if it is not ready");
        for (int delay = 0; delay <= 9; delay++) {
            PaintBank bank = Due.with(COLORS + "lane 6;rework 1 delay " + delay + ";" + BAD);
            play(bank, "enter 0;wait 5;leave 0;");
            for (int left = delay; left > 0; left--) {
                DUE.same("readyIn of " + delay, bank.readyIn(), left);
                DUE.none("back with " + left + " of " + delay + " left", bank.back(0));
                bank.waits();
            }
            DUE.same("readyIn at last", bank.readyIn(), 0);
            DUE.same("back at " + delay, bank.back(0), 0);
        }
        PaintBank long1 = Due.with(COLORS + "lane 6;rework 1 delay 9;" + BAD);
        play(long1, "enter 0;leave 0;wait 50;");
        DUE.same("readyIn long behind it", long1.readyIn(), 0);
        DUE.same("back long behind it", long1.back(0), 0);
        // Paintings of other cars take time, too; each car has a time of its own.
        PaintBank two = Due.with(COLORS + "lane 6;lane 6;rework 2 delay 2;" + BAD + BAD + CAR);
        play(two, "repeat 3 (enter 0;);leave 0;leave 0;");
        DUE.none("back one before", two.back(0));
        two.leave(0);
        DUE.same("back by a painting", two.back(0), 0);
        DUE.none("the next one is not ready", two.back(0));
        two.waits();
        DUE.same("then it is", two.back(0), 1);
    }

    private static void backRoom() {
        DUE.sentence("or if the lane has no room.");
        PaintBank bank = Due.with(COLORS + "lane 1;lane 2;rework 1 delay 0;" + BAD + CAR.repeat(4));
        play(bank, "enter 0;leave 0;enter 0;enter 1;");
        DUE.none("back into a full lane", bank.back(0));
        DUE.same("back into the last place", bank.back(1), 0);
        DUE.none("enter then", bank.enter(1));
        PaintBank full = Due.with(COLORS + "lane 1;lane 2;rework 1 delay 0;" + BAD + CAR.repeat(4));
        play(full, "enter 0;leave 0;enter 0;enter 1;enter 1;");
        DUE.none("back into lane 0", full.back(0));
        DUE.none("back into lane 1", full.back(1));
        full.leave(0);
        DUE.same("back into the place that is free", full.back(0), 0);
    }

    private static void backNone() {
        DUE.sentence("Lets a car come back from the rework lane into a lane.");
        PaintBank bank = Due.with(COLORS + "lane 6;rework 1 delay 0;" + BAD);
        DUE.none("back at first", bank.back(0));
        bank.enter(0);
        DUE.none("back with a car in a lane", bank.back(0));
        bank.leave(0);
        DUE.same("back", bank.back(0), 0);
        DUE.none("back again", bank.back(0));
        bank.leave(0);
        DUE.none("back when it is out", bank.back(0));
    }

    // ---- the end of time

    /** At a time from 9900 to 9999. */
    private static void passTo(PaintBank bank, int time) {
        play(bank, "repeat 20 (repeat 5 (wait 99;););");
        for (int i = bank.time(); i < time; i++) {
            play(bank, "wait 1;");
        }
    }

    private static void lastTime() {
        DUE.sentence("To wait increases the time by 1. The time does not exceed 9999; what would increase it then "
                + "cannot be done.");
        PaintBank bank = new PaintBank();
        DUE.same("the first", bank.waits(), 1);
        DUE.same("the second", bank.waits(), 2);
        PaintBank end = new PaintBank();
        passTo(end, 9997);
        DUE.same("waits at 9997", end.waits(), 9998);
        DUE.same("waits at 9998", end.waits(), 9999);
        DUE.none("waits at 9999", end.waits());
        DUE.same("time", end.time(), 9999);
        DUE.none("waits again", end.waits());
        DUE.same("save answers it", end.save(), 9999);
    }

    private static void lastTimeOfALeave() {
        DUE.sentence("what would increase it then cannot be done");
        PaintBank bank = Due.with(COLORS + "lane 6;lane 6;rework 3 delay 0;" + CAR + CAR + BAD + BAD);
        play(bank, "enter 0;enter 0;enter 1;enter 1;");
        passTo(bank, 9998);
        DUE.yes("canLeave at 9998", bank.canLeave(0));
        DUE.yes("canLeave to rework at 9998", bank.canLeave(1));
        DUE.same("leave at 9998", bank.leave(0), 0);
        DUE.no("canLeave at 9999", bank.canLeave(0));
        DUE.none("leave at 9999", bank.leave(0));
        DUE.no("canLeave to rework at 9999", bank.canLeave(1));
        DUE.none("leave to rework at 9999", bank.leave(1));
        DUE.same("outCount", bank.outCount(), 1);
        DUE.same("logCount", bank.logCount(), 1);
        bank.undo();
        DUE.same("undone: leave to rework at 9998", bank.leave(1), 2);
        DUE.same("time", bank.time(), 9999);
    }

    private static void lastTimeOfOthers() {
        DUE.sentence("what would increase it then cannot be done");
        PaintBank bank = Due.with(COLORS + "lane 6;rework 1 delay 0;" + BAD + "car b body 0;car a body 0;");
        play(bank, "enter 0;");
        passTo(bank, 9998);
        bank.leave(0);
        DUE.same("enter at 9999", bank.enter(0), 1);
        DUE.same("back at 9999", bank.back(0), 0);
        DUE.same("step at 9999", bank.step(), 1);
        DUE.none("step when only a leave is left", bank.step());
        DUE.none("unload at 9999", bank.unload());
        PaintBank swap = Due.with(COLORS + "car b body 0;car a body 0;");
        passTo(swap, 9999);
        DUE.same("swap at 9999", swap.swap(), 2);
    }

    // ---- out

    private static void moves() {
        DUE.sentence("The move of a car that is out is its place among those that are out (from 0) less its place "
                + "in the sequence.");
        PaintBank last = Due.with(TWELVE);
        play(last, "repeat 6 (enter 0;);repeat 5 (enter 1;);enter 2;leave 2;repeat 6 (leave 0;);"
                + "repeat 5 (leave 1;);");
        DUE.same("the last car first", last.move(11), -11);
        for (int car = 0; car < 11; car++) {
            DUE.same("move " + car, last.move(car), 1);
        }
        PaintBank first = Due.with(TWELVE);
        play(first, "enter 0;repeat 6 (enter 1;);repeat 5 (enter 2;);repeat 6 (leave 1;);"
                + "repeat 5 (leave 2;);leave 0;");
        DUE.same("the first car last", first.move(0), 11);
        for (int car = 1; car < 12; car++) {
            DUE.same("move " + car, first.move(car), -1);
        }
        PaintBank same = Due.with(TWELVE);
        play(same, "repeat 12 (enter 0;leave 0;);");
        for (int car = 0; car < 12; car++) {
            DUE.same("move " + car, same.move(car), 0);
        }
    }

    private static void movesOfOthers() {
        DUE.sentence("Throws IllegalStateException if it is not out");
        PaintBank bank = Due.with(COLORS + "lane 6;rework 1 delay 0;" + BAD + CAR);
        DUE.state("a car that waits", () -> bank.move(0));
        bank.enter(0);
        DUE.state("a car in a lane", () -> bank.move(0));
        bank.leave(0);
        DUE.state("a car in the rework lane", () -> bank.move(0));
        bank.back(0);
        bank.leave(0);
        DUE.same("a car that is out", bank.move(0), 0);
        DUE.state("the other one", () -> bank.move(1));
        bank.undo();
        DUE.state("undone", () -> bank.move(0));
    }

    private static void lateByOne() {
        DUE.sentence("It is late if this is more than it may move back.");
        for (int behind = 0; behind <= 11; behind++) {
            PaintBank bank = Due.with(TWELVE + "window 11 " + behind + ";");
            play(bank, "enter 0;repeat 6 (enter 1;);repeat 5 (enter 2;);");
            for (int i = 0; i < behind; i++) {
                play(bank, bank.laneLength(1) > 0 ? "leave 1;" : "leave 2;");
            }
            bank.leave(0);
            DUE.same("moved back by " + behind, bank.late(), 0);
            if (behind < 11) {
                bank.undo();
                play(bank, bank.laneLength(1) > 0 ? "leave 1;" : "leave 2;");
                DUE.same("before it is out", bank.late(), 0);
                bank.leave(0);
                DUE.same("moved back by one more than " + behind, bank.late(), 1);
            }
        }
    }

    private static void lateCount() {
        DUE.sentence("Returns the number of cars that are out and late.");
        DUE.same("no car", new PaintBank().late(), 0);
        PaintBank bank = Due.with(TWELVE + "window 11 0;");
        play(bank, "repeat 6 (enter 0;);repeat 5 (enter 1;);enter 2;leave 2;");
        DUE.same("none but an early one is out", bank.late(), 0);
        for (int i = 1; i <= 11; i++) {
            play(bank, i <= 6 ? "leave 0;" : "leave 1;");
            DUE.same("late", bank.late(), i);
        }
    }

    private static void batchesOut() {
        DUE.sentence("Returns the greatest number of cars of one color (their present jobs), one behind the "
                + "other, among those that are out.");
        DUE.same("no car", new PaintBank().longestBatch(), 0);
        String[] rows = {"a", "ab", "aa", "aab", "baa", "aabb", "abbaaab", "abab", "aaaaaaaaaaaa",
            "baaaaaaaaaaa", "aaaaaaaaaaab", "abaaaa", "caabaac"};
        int[] longest = {1, 1, 2, 2, 2, 2, 3, 1, 12, 11, 11, 4, 2};
        for (int i = 0; i < rows.length; i++) {
            StringBuilder text = new StringBuilder(COLORS + "lane 6;batch 2 purge 1;");
            for (char color : rows[i].toCharArray()) {
                text.append("car ").append(color).append(" body 0;");
            }
            PaintBank bank = Due.with(text.toString());
            play(bank, "repeat 12 (enter 0;leave 0;);");
            DUE.same("longestBatch of " + rows[i], bank.longestBatch(), longest[i]);
        }
        PaintBank jobs = Due.with(COLORS + "lane 6;car b body 0;car a body 0;car b body 0;");
        DUE.same("before any is out", jobs.longestBatch(), 0);
        play(jobs, "swap;enter 0;enter 0;enter 0;");
        DUE.same("in lanes", jobs.longestBatch(), 0);
        play(jobs, "leave 0;leave 0;leave 0;");
        DUE.same("present jobs", jobs.longestBatch(), 2);
    }

    // ---- what is asked

    private static void whereCars() {
        DUE.sentence("Returns 0 if a car waits, 1 if it is in a lane, 2 if it is in the rework lane, 3 if it is "
                + "out.");
        PaintBank bank = Due.with(COLORS + "lane 6;rework 1 delay 0;" + CAR.repeat(11) + BAD);
        for (int car = 0; car < 12; car++) {
            DUE.same("waits", bank.where(car), 0);
            bank.enter(0);
            DUE.same("in a lane", bank.where(car), 1);
            bank.leave(0);
            DUE.same("painted", bank.where(car), car < 11 ? 3 : 2);
        }
        bank.back(0);
        DUE.same("back", bank.where(11), 1);
        bank.leave(0);
        DUE.same("out", bank.where(11), 3);
    }

    private static void waitingCars() {
        DUE.sentence("Returns the number of cars that wait.");
        DUE.same("no car", new PaintBank().waiting(), 0);
        PaintBank bank = Due.with(TWELVE);
        for (int left = 12; left > 0; left--) {
            DUE.same("waiting", bank.waiting(), left);
            bank.enter(left % 4);
        }
        DUE.same("at last", bank.waiting(), 0);
        bank.leave(0);
        DUE.same("when one is out", bank.waiting(), 0);
    }

    private static void outside(String what, int count, IntUnaryOperator call) {
        for (int i : new int[] {-1, count, count + 1, FAR[0], FAR[1]}) {
            DUE.outside(what + "(" + i + ") of " + count, () -> call.applyAsInt(i));
        }
        for (int i = 0; i < count; i++) {
            call.applyAsInt(i);
        }
    }

    private static void laneNumbers() {
        DUE.sentence("The parameters car, color and lane are numbers of existing ones; otherwise "
                + "IndexOutOfBoundsException is thrown.");
        for (int lanes : new int[] {0, 1, 3, 4}) {
            PaintBank bank = Due.with(COLORS + "lane 6;".repeat(lanes) + CAR);
            outside("laneLength", lanes, bank::laneLength);
            outside("inLane", lanes, lane -> bank.inLane(lane, 0));
            outside("inLane -1", lanes, lane -> bank.inLane(lane, -1));
            outside("canLeave", lanes, lane -> bank.canLeave(lane) ? 1 : 0);
            outside("enter", lanes, bank::enter);
            outside("leave", lanes, bank::leave);
            outside("back", lanes, bank::back);
        }
    }

    private static void carNumbers() {
        for (int cars : new int[] {0, 1, 11, 12}) {
            PaintBank bank = Due.with(COLORS + "lane 6;" + CAR.repeat(cars));
            play(bank, "repeat 12 (enter 0;leave 0;);");
            outside("where", cars, bank::where);
            outside("move", cars, bank::move);
        }
    }

    private static void placesInLanes() {
        DUE.sentence("Returns car i, from 0 for the first one, in a lane; NONE if there is none.");
        PaintBank bank = Due.with(TWELVE);
        play(bank, "enter 1;repeat 6 (enter 3;);");
        int[] lengths = {0, 1, 0, 6};
        for (int lane = 0; lane < 4; lane++) {
            DUE.same("laneLength " + lane, bank.laneLength(lane), lengths[lane]);
            for (int i : new int[] {-1, lengths[lane], 6, 12, FAR[0], FAR[1]}) {
                DUE.none("inLane " + lane + ", " + i, bank.inLane(lane, i));
            }
        }
        DUE.same("the only one", bank.inLane(1, 0), 0);
        for (int i = 0; i < 6; i++) {
            DUE.same("one of six", bank.inLane(3, i), i + 1);
        }
        bank.leave(3);
        DUE.none("the last place when one has left", bank.inLane(3, 5));
        DUE.same("the last one then", bank.inLane(3, 4), 6);
    }

    private static void placesInRework() {
        DUE.sentence("Returns car i, from 0 for the first one, in the rework lane; NONE if there is none.");
        PaintBank bank = Due.with(COLORS + "lane 6;rework 3 delay 0;" + BAD.repeat(3));
        for (int count = 0; count <= 3; count++) {
            for (int i = 0; i < count; i++) {
                DUE.same("inRework " + i + " of " + count, bank.inRework(i), i);
            }
            for (int i : new int[] {-1, count, 3, 12, FAR[0], FAR[1]}) {
                DUE.none("inRework " + i + " of " + count, bank.inRework(i));
            }
            play(bank, "enter 0;leave 0;");
        }
    }

    private static void placesOut() {
        DUE.sentence("Returns the number of cars that are out. [..] Returns car i, from 0 for the first one, of "
                + "those that are out; NONE if there is none.");
        PaintBank bank = Due.with(TWELVE);
        for (int count = 0; count <= 12; count++) {
            DUE.same("outCount", bank.outCount(), count);
            for (int i : new int[] {-1, count, 12, FAR[0], FAR[1]}) {
                DUE.none("out " + i + " of " + count, bank.out(i));
            }
            if (count > 0) {
                DUE.same("the last of " + count, bank.out(count - 1), count - 1);
                DUE.same("the first of " + count, bank.out(0), 0);
            }
            play(bank, "enter 2;leave 2;");
        }
    }

    private static void readyCount() {
        DUE.sentence("Returns the least number of times to wait until the first car of the rework lane is ready "
                + "(0 if it is); NONE if the rework lane is empty.");
        PaintBank bank = Due.with(COLORS + "lane 6;rework 2 delay 9;" + BAD + BAD);
        DUE.none("empty", bank.readyIn());
        bank.enter(0);
        DUE.none("a car in a lane", bank.readyIn());
        bank.leave(0);
        DUE.same("behind the painting", bank.readyIn(), 9);
        play(bank, "enter 0;leave 0;");
        DUE.same("of the first one", bank.readyIn(), 8);
        play(bank, "wait 7;");
        DUE.same("one more", bank.readyIn(), 1);
        bank.waits();
        DUE.same("it is", bank.readyIn(), 0);
        bank.back(0);
        DUE.same("of the next one", bank.readyIn(), 1);
        play(bank, "wait 2;");
        DUE.same("it is, too", bank.readyIn(), 0);
        bank.back(0);
        DUE.none("empty again", bank.readyIn());
    }

    private static void hoseAndRun() {
        DUE.sentence("Returns the color of the hose; NONE if it has none. [..] Returns the run of the hose; 0 if it "
                + "has no color.");
        PaintBank bank = Due.with(COLORS + "lane 6;" + CAR);
        bank.enter(0);
        DUE.none("hose", bank.hose());
        DUE.same("run", bank.run(), 0);
        bank.leave(0);
        DUE.same("hose of color 0", bank.hose(), 0);
        DUE.same("run of color 0", bank.run(), 1);
        bank.undo();
        DUE.none("hose undone", bank.hose());
        DUE.same("run undone", bank.run(), 0);
    }

    // ---- what cannot be done changes nothing

    /** A state in which the calls below cannot be done. */
    private static PaintBank stuck() {
        PaintBank bank = Due.with(COLORS + "lane 1;lane 1;lane 1;window 1 11;rework 1 delay 9;"
                + "car a body 0 bad 1;car a body 1 bad 1;car b body 2 bad 2;car c body 3;");
        play(bank, "enter 0;leave 0;enter 0;");
        bank.enter(1);
        bank.save();
        bank.report();
        return bank;
    }

    private static void cannot(String what, ToIntFunction<PaintBank> call) {
        PaintBank bank = stuck();
        DUE.none(what, call.applyAsInt(bank));
        DUE.same("all behind " + what, Look.through(bank), Look.through(stuck()));
    }

    private static void nothingChanges() {
        DUE.sentence("each call returns NONE, and nothing changes, if it cannot be done");
        cannot("enter of a full lane", bank -> bank.enter(0));
        cannot("leave of an empty lane", bank -> bank.leave(2));
        cannot("leave of a car that the rework lane has no room for", bank -> bank.leave(0));
        cannot("leave of another one", bank -> bank.leave(1));
        cannot("back of a car that is not ready", bank -> bank.back(2));
        cannot("back into a full lane", bank -> bank.back(0));
        cannot("unload when the first car cannot leave", bank -> bank.unload());
        cannot("swap of one car", bank -> bank.swap());
        PaintBank late = new PaintBank();
        passTo(late, 9999);
        PaintBank same = new PaintBank();
        passTo(same, 9999);
        DUE.none("waits", late.waits());
        DUE.none("step", late.step());
        DUE.same("all behind waits", Look.through(late), Look.through(same));
    }

    private static void throwing(String what, Consumer<PaintBank> call) {
        PaintBank bank = stuck();
        boolean thrown = false;
        try {
            call.accept(bank);
        } catch (IndexOutOfBoundsException | IllegalArgumentException | IllegalStateException e) {
            thrown = true;
        }
        DUE.yes(what + " throws", thrown);
        DUE.same("all behind " + what, Look.through(bank), Look.through(stuck()));
    }

    private static void thrownChangesNothing() {
        DUE.sentence("A call that throws an exception changes nothing, unless something else is said.");
        throwing("enter(3)", bank -> bank.enter(3));
        throwing("enter(-1)", bank -> bank.enter(-1));
        throwing("leave(3)", bank -> bank.leave(3));
        throwing("back(3)", bank -> bank.back(3));
        throwing("move(0)", bank -> bank.move(0));
        throwing("move(4)", bank -> bank.move(4));
        throwing("truncate(1)", bank -> bank.truncate(1));
        throwing("setting(10)", bank -> bank.setting(10));
        throwing("ruleCost(301)", bank -> bank.ruleCost(301));
        throwing("ruleOut(-1)", bank -> bank.ruleOut(-1));
        throwing("stepsToOut(4)", bank -> bank.stepsToOut(4));
        throwing("laneFor(4)", bank -> bank.laneFor(4));
        throwing("log(9, 9)", bank -> bank.log(9, 9));
        throwing("log(0, 4)", bank -> bank.log(0, 4));
        throwing("reportByte(-1)", bank -> bank.reportByte(-1));
    }

    private static void lastCall() {
        DUE.sentence("An object is used for at most 512 calls after it has been made");
        PaintBank waits = new PaintBank();
        for (int call = 1; call <= 511; call++) {
            DUE.same("call " + call, waits.waits(), call);
        }
        DUE.same("call 512", waits.undo(), 5);
        PaintBank throwing = new PaintBank();
        for (int call = 1; call <= 511; call++) {
            DUE.outside("call " + call, () -> throwing.enter(0));
        }
        DUE.same("call 512", throwing.waits(), 1);
        PaintBank full = new PaintBank();
        for (int call = 1; call <= 512; call++) {
            if (call <= 40) {
                DUE.same("call " + call, full.feed(0, 0, 0, 0, 0), 20 * call);
            } else {
                DUE.state("call " + call, () -> full.feed(0, 0, 0, 0, 0));
            }
        }
    }
}
