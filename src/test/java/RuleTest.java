/** Promises 38 and 41 to 44: the rule, and looking ahead by it. */
public final class RuleTest {
    private static final Due DUE = new Due();

    public static void main(String[] args) {
        order();
        choosingALane();
        choosingToLeave();
        reworkFirst();
        lookingAhead();
        lookingFar();
        wrongNumbers();
        DUE.end();
    }

    private static void order() {
        PaintBank bank = Due.with("color a change 3;color b change 4;lane 1;lane 1;rework 1 delay 2;"
                + "car a body 0 bad 1;car b body 0;car a body 0;");
        int[] steps = {1, 1, 2, 1, 2, 2, 0, 2, -1};
        int[] times = {0, 0, 1, 1, 2, 3, 3, 4, 4};
        for (int i = 0; i < steps.length; i++) {
            DUE.same("step " + i, bank.step(), steps[i]);
            DUE.same("time of step " + i, bank.time(), times[i]);
        }
        DUE.same("out 0", bank.out(0), 2);
        DUE.same("out 1", bank.out(1), 1);
        DUE.same("out 2", bank.out(2), 0);

        PaintBank slow = Due.with("color a change 3;lane 1;rework 1 delay 2;car a body 0 bad 1;");
        int[] all = {1, 2, 3, 3, 0, 2, -1};
        for (int i = 0; i < all.length; i++) {
            DUE.same("slow step " + i, slow.step(), all[i]);
        }
        DUE.same("steps can be undone", slow.undo(), 5);
        DUE.same("a step without lanes", Due.with("color a change 3;car a body 0;").step(), -1);
    }

    private static void choosingALane() {
        PaintBank bank = Due.with("color a change 3;color b change 4;lane 2;lane 2;lane 3;"
                + "car a body 0;car b body 0;car a body 0;car b body 0;car b body 0;car a body 0;"
                + "car a body 0;");
        for (int car = 0; car < 7; car++) {
            DUE.same("laneFor " + car + " when all are empty", bank.laneFor(car), 0);
        }
        bank.enter(1);
        DUE.same("behind its color", bank.laneFor(2), 1);
        DUE.same("the fewest cars, the lowest lane", bank.laneFor(1), 0);
        DUE.same("for a car in a lane, too", bank.laneFor(0), 1);
        bank.enter(0);
        DUE.same("behind b", bank.laneFor(3), 0);
        DUE.same("behind a", bank.laneFor(2), 1);
        bank.enter(1);
        DUE.same("a's lane is full: the fewest cars", bank.laneFor(5), 2);
        bank.enter(0);
        bank.enter(2);
        DUE.same("one lane has room", bank.laneFor(5), 2);
        bank.enter(2);
        bank.enter(2);
        DUE.same("no lane has room", bank.laneFor(5), -1);
        bank.leave(2);
        DUE.same("for a car that is out, too", bank.laneFor(4), 2);

        PaintBank last = Due.with("color a change 3;color b change 4;lane 3;lane 3;"
                + "car a body 0;car b body 0;car a body 0;");
        Due.play(last, "enter 0;enter 0;");
        DUE.same("the last car counts, not the first", last.laneFor(2), 1);
        PaintBank even = Due.with("color a change 3;color b change 4;color c change 1;lane 3;lane 3;"
                + "lane 3;car a body 0;car a body 0;car b body 0;car b body 0;car c body 0;car a body 0;");
        Due.play(even, "enter 0;enter 0;enter 1;");
        DUE.same("an empty lane for a third color", even.laneFor(4), 2);
        Due.play(even, "enter 2;");
        DUE.same("the lowest of equal lengths", even.laneFor(4), 1);
        DUE.same("the lowest behind its color", even.laneFor(3), 1);
        DUE.same("its color before fewer cars", even.laneFor(5), 0);
    }

    private static void choosingToLeave() {
        PaintBank bank = Due.with("color a change 3;color b change 4;lane 3;lane 3;lane 3;window 2 11;"
                + "car b body 0;car a body 0;car b body 0;car b body 0;car a body 0;");
        Due.play(bank, "enter 2;enter 1;enter 0;enter 0;enter 1;");
        DUE.same("no color: the least number", bank.step(), 2);
        DUE.same("that is car 0", bank.out(0), 0);
        bank.step();
        DUE.same("the color of the hose", bank.out(1), 2);
        bank.step();
        DUE.same("the same color again", bank.out(2), 3);
        bank.step();
        DUE.same("a change at last", bank.out(3), 1);

        PaintBank early = Due.with("color a change 3;color b change 4;lane 3;lane 3;window 0 11;"
                + "car a body 0;car b body 0;car a body 0;");
        Due.play(early, "enter 0;enter 1;enter 0;leave 0;step 1;");
        DUE.same("its color, but too early: the other one", early.out(1), 1);
        PaintBank lowest = Due.with("color a change 3;lane 3;lane 3;car a body 0;car a body 0;"
                + "car a body 0;");
        Due.play(lowest, "enter 1;enter 1;enter 0;leave 1;step 1;");
        DUE.same("the lowest lane of the hose's color, not the least number", lowest.out(1), 2);
    }

    private static void reworkFirst() {
        PaintBank bank = Due.with("color a change 3;color b change 4;lane 2;lane 2;rework 2 delay 1;"
                + "car a body 0 bad 1;car b body 0;car b body 0;car a body 0;car b body 0;");
        Due.play(bank, "enter 0;leave 0;enter 1;");
        DUE.same("not ready: the next one enters", bank.step(), 1);
        DUE.same("behind its color", bank.inLane(1, 1), 2);
        bank.waits();
        DUE.same("ready: it comes back before another enters", bank.step(), 0);
        DUE.same("into the empty lane", bank.inLane(0, 0), 0);
        DUE.same("then one enters", bank.step(), 1);

        PaintBank full = Due.with("color a change 3;lane 1;rework 1 delay 0;car a body 0 bad 1;"
                + "car a body 0;");
        Due.play(full, "enter 0;leave 0;enter 0;");
        DUE.same("ready, but no lane has room", full.step(), 2);
        DUE.same("then it comes back", full.step(), 0);

        PaintBank stuck = Due.with("color a change 3;lane 1;rework 1 delay 0;car a body 0 bad 1;"
                + "car a body 0 bad 1;");
        Due.play(stuck, "enter 0;leave 0;enter 0;");
        DUE.same("nothing but to wait", stuck.step(), 3);
        DUE.same("steps never end", Due.play(stuck, "step 99;step 99;"), 2);
        DUE.same("time", stuck.time(), 200);
        DUE.same("stepsToOut without an end", stuck.stepsToOut(0), -1);
    }

    private static void lookingAhead() {
        PaintBank bank = Due.with("color a change 3;color b change 4;lane 1;lane 1;rework 1 delay 2;"
                + "car a body 0 bad 1;car b body 0;car a body 0;");
        // The steps are 1 1 2 1 2 2 0 2: cars 0 (failed), 2, 1 and 0 are painted.
        int[] outs = {0, 0, 0, 0, 0, 1, 2, 2, 3, 3};
        int[] costs = {0, 0, 0, 0, 0, 0, 4, 4, 7, 7};
        for (int steps = 0; steps < outs.length; steps++) {
            DUE.same("ruleOut " + steps, bank.ruleOut(steps), outs[steps]);
            DUE.same("ruleCost " + steps, bank.ruleCost(steps), costs[steps]);
        }
        DUE.same("ruleOut 300", bank.ruleOut(300), 3);
        DUE.same("ruleCost 300", bank.ruleCost(300), 7);
        DUE.same("stepsToOut 0", bank.stepsToOut(0), 8);
        DUE.same("stepsToOut 1", bank.stepsToOut(1), 6);
        DUE.same("stepsToOut 2", bank.stepsToOut(2), 5);
        DUE.same("nothing changed", bank.waiting(), 3);
        DUE.same("no time went by", bank.time(), 0);
        DUE.same("nothing is in the log", bank.logCount(), 0);
        DUE.same("nothing to undo", bank.undo(), -1);
        DUE.same("bad as before", bank.bad(0), 1);
        Due.play(bank, "step 6;");
        DUE.same("stepsToOut of a car that is out", bank.stepsToOut(2), 0);
        DUE.same("stepsToOut 0 then", bank.stepsToOut(0), 2);
        DUE.same("ruleCost is the whole cost", bank.ruleCost(0), 4);
        DUE.same("ruleOut 2 then", bank.ruleOut(2), 3);
    }

    private static void lookingFar() {
        // A car that can leave only behind 300 waits, as the others keep the lane.
        PaintBank bank = Due.with("color a change 3;lane 1;rework 1 delay 0;car a body 0 bad 1;"
                + "car a body 0;window 0 11;");
        Due.play(bank, "enter 0;leave 0;enter 0;");
        DUE.same("car 1 is too early, car 0 has no room", bank.stepsToOut(1), -1);
        DUE.same("ruleOut 300", bank.ruleOut(300), 0);
        PaintBank nothing = Due.with("color a change 3;car a body 0;");
        DUE.same("stepsToOut without a step", nothing.stepsToOut(0), -1);
        DUE.same("ruleCost without a step", nothing.ruleCost(300), 0);
        PaintBank end = Due.with("color a change 3;lane 1;car a body 0;");
        DUE.same("stepsToOut 0", end.stepsToOut(0), 2);
    }

    private static void wrongNumbers() {
        PaintBank bank = Due.with("color a change 3;lane 1;car a body 0;");
        for (int i : new int[] {-1, 301, Integer.MIN_VALUE, Integer.MAX_VALUE}) {
            DUE.argument("ruleCost " + i, () -> bank.ruleCost(i));
            DUE.argument("ruleOut " + i, () -> bank.ruleOut(i));
        }
        for (int i : new int[] {-1, 1, 12, Integer.MIN_VALUE, Integer.MAX_VALUE}) {
            DUE.outside("stepsToOut " + i, () -> bank.stepsToOut(i));
            DUE.outside("laneFor " + i, () -> bank.laneFor(i));
        }
    }
}
