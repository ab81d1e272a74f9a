import java.util.function.ToIntFunction;

/** The edges of section 3 and of promises 38 and 41 to 44: the rule, and looking ahead by it. */
public final class RuleEdgeTest {
    private static final Due DUE = new Due();
    private static final String COLORS = "color a change 3;color b change 4;color c change 5;";
    private static final String BAD = "car a body 0 bad 1;";
    private static final int[] FAR = {Integer.MIN_VALUE, Integer.MAX_VALUE};

    public static void main(String[] args) {
        firstBack();
        backNotReady();
        backWithoutRoom();
        thenEnter();
        enterWithoutRoom();
        thenLeave();
        leaveNone();
        waitForRework();
        waitAtTheEnd();
        lastSteps();
        lanesWithRoom();
        laneOfTheColor();
        laneOfTheFewest();
        toLeaveByColor();
        toLeaveByNumber();
        toLeaveOnlyWhoCan();
        stepNumbers();
        carNumbers();
        noSteps();
        asManyAsCanBeMade();
        eachStep();
        threeHundred();
        leastSteps();
        neverOut();
        laneForAnyCar();
        noLaneHasRoom();
        nothingChanges();
        DUE.end();
    }

    private static PaintBank after(String setup, String script) {
        PaintBank bank = Due.with(COLORS + setup);
        Due.play(bank, script);
        return bank;
    }

    private static String cars(String colors) {
        StringBuilder text = new StringBuilder();
        for (char color : colors.toCharArray()) {
            text.append("car ").append(color).append(" body 0;");
        }
        return text.toString();
    }

    // ---- the order

    private static void firstBack() {
        DUE.sentence("A step by the rule is the first of these that can be done: 0 the first car of the rework "
                + "lane comes back into the lane that is chosen for it");
        PaintBank bank = after("lane 3;lane 3;rework 2 delay 0;" + BAD + BAD + cars("aa"),
                "enter 0;enter 0;enter 0;leave 0;leave 0;");
        DUE.same("before an enter, a leave and a wait", bank.step(), 0);
        DUE.same("the first one", bank.inLane(0, 1), 0);
        DUE.same("it takes no time", bank.time(), 2);
        DUE.same("the next one, too", bank.step(), 0);
        DUE.same("behind it", bank.inLane(0, 2), 1);
    }

    private static void backNotReady() {
        DUE.sentence("the first of these that can be done");
        PaintBank bank = after("lane 3;lane 3;rework 2 delay 1;" + BAD + cars("b"), "enter 0;leave 0;");
        DUE.same("not ready by one: an enter", bank.step(), 1);
        DUE.same("not ready by one: a leave", bank.step(), 2);
        DUE.same("which takes the time that it needs", bank.step(), 0);
        DUE.same("a leave at last", bank.step(), 2);
        DUE.none("nothing is left", bank.step());
        PaintBank first = after("lane 3;rework 2 delay 5;" + BAD + BAD, "enter 0;enter 0;leave 0;leave 0;");
        for (int i = 0; i < 4; i++) {
            DUE.same("wait for the first one", first.step(), 3);
        }
        DUE.same("the first one is ready", first.step(), 0);
        DUE.same("the second one is not: a leave", first.step(), 2);
        DUE.same("now it is", first.step(), 0);
    }

    private static void backWithoutRoom() {
        DUE.sentence("the first of these that can be done");
        PaintBank bank = after("lane 1;rework 1 delay 0;" + BAD + cars("b"), "enter 0;leave 0;enter 0;");
        DUE.same("ready, but no lane has room: a leave", bank.step(), 2);
        DUE.same("then it comes back", bank.step(), 0);
        PaintBank stuck = after("lane 1;rework 1 delay 0;" + BAD + BAD, "enter 0;leave 0;enter 0;");
        DUE.same("ready, but no lane has room, and none can leave", stuck.step(), 3);
    }

    private static void thenEnter() {
        DUE.sentence("1 the first waiting car enters the lane that is chosen for it");
        PaintBank bank = after("lane 1;lane 6;rework 3 delay 9;" + BAD + cars("abc"), "enter 0;leave 0;");
        int[] lanes = {0, 1, 1};
        for (int i = 0; i < 3; i++) {
            DUE.same("before a leave and a wait", bank.step(), 1);
            DUE.same("car " + (i + 1), bank.inLane(lanes[i], i < 2 ? 0 : 1), i + 1);
        }
        DUE.same("none waits: a leave", bank.step(), 2);
    }

    private static void enterWithoutRoom() {
        DUE.sentence("the first of these that can be done");
        PaintBank bank = after("lane 1;lane 1;" + cars("abc"), "step 2;");
        DUE.same("lanes are full", bank.laneLength(0) + bank.laneLength(1), 2);
        DUE.same("no lane has room: a leave", bank.step(), 2);
        DUE.same("then an enter", bank.step(), 1);
        DUE.none("without a lane", after(cars("a"), "").step());
    }

    private static void thenLeave() {
        DUE.sentence("2 a car leaves the lane that is chosen");
        PaintBank bank = after("lane 6;rework 1 delay 9;" + BAD + cars("b"), "enter 0;leave 0;enter 0;");
        DUE.same("before a wait", bank.step(), 2);
        DUE.same("out", bank.out(0), 1);
        PaintBank fails = after("lane 6;" + BAD, "enter 0;");
        DUE.same("a painting that fails", fails.step(), 2);
        DUE.same("where", fails.where(0), 2);
    }

    private static void leaveNone() {
        DUE.sentence("2 a car leaves the lane that is chosen; 3 if the rework lane is not empty, to wait.");
        PaintBank early = after("lane 6;window 0 11;rework 1 delay 2;" + BAD + cars("b"),
                "enter 0;leave 0;enter 0;");
        DUE.same("too early: a wait", early.step(), 3);
        DUE.same("time", early.time(), 2);
        PaintBank never = after("lane 1;rework 0 delay 0;" + BAD, "enter 0;");
        DUE.none("no rework lane: nothing", never.step());
        PaintBank empty = after("lane 1;" + cars("a"), "step 2;");
        DUE.none("all are out: nothing", empty.step());
        DUE.none("no setup: nothing", new PaintBank().step());
    }

    private static void waitForRework() {
        DUE.sentence("3 if the rework lane is not empty, to wait.");
        for (int delay = 0; delay <= 9; delay++) {
            PaintBank bank = after("lane 1;rework 1 delay " + delay + ";" + BAD, "enter 0;leave 0;");
            for (int i = 0; i < delay; i++) {
                DUE.same("wait " + i + " of " + delay, bank.step(), 3);
            }
            DUE.same("back when it is ready", bank.step(), 0);
            DUE.same("time", bank.time(), delay + 1);
        }
    }

    private static void passTo(PaintBank bank, int time) {
        Due.play(bank, "repeat 20 (repeat 5 (wait 99;););");
        for (int i = bank.time(); i < time; i++) {
            Due.play(bank, "wait 1;");
        }
    }

    private static void waitAtTheEnd() {
        DUE.sentence("The time does not exceed 9999; what would increase it then cannot be done.");
        PaintBank bank = after("lane 1;rework 1 delay 3;" + BAD, "enter 0;");
        passTo(bank, 9997);
        DUE.same("a leave at 9997", bank.step(), 2);
        DUE.same("ruleOut stops there, too", bank.ruleOut(300), 0);
        DUE.none("stepsToOut, too", bank.stepsToOut(0));
        DUE.same("a wait at 9998", bank.step(), 3);
        DUE.none("a wait at 9999", bank.step());
        PaintBank out = after("lane 1;" + cars("aa"), "enter 0;");
        passTo(out, 9998);
        DUE.same("ruleOut at 9998", out.ruleOut(300), 1);
        DUE.same("stepsToOut at 9998", out.stepsToOut(0), 1);
        DUE.none("stepsToOut of the next one", out.stepsToOut(1));
        DUE.same("a leave at 9998", out.step(), 2);
        DUE.same("an enter at 9999", out.step(), 1);
        DUE.none("a leave at 9999", out.step());
    }

    private static void lastSteps() {
        DUE.sentence("Makes a step by the rule. @return what it was, 0 to 3");
        PaintBank bank = after("lane 1;rework 1 delay 2;" + BAD, "");
        int[] steps = {1, 2, 3, 3, 0, 2, -1, -1};
        for (int i = 0; i < steps.length; i++) {
            DUE.same("step " + i, bank.step(), steps[i]);
        }
        DUE.same("those that did something can be undone", bank.undo(), 5);
    }

    // ---- the lane that is chosen

    private static void lanesWithRoom() {
        DUE.sentence("For a car, of the lanes that have room the lowest one is chosen");
        String setup = "lane 1;lane 1;lane 1;lane 1;" + cars("aaaaa");
        PaintBank bank = after(setup, "");
        for (int lane = 0; lane < 4; lane++) {
            DUE.same("laneFor with " + lane + " full", bank.laneFor(4), lane);
            DUE.same("step", bank.step(), 1);
            DUE.same("it is there", bank.inLane(lane, 0), lane);
        }
        DUE.none("laneFor with all full", bank.laneFor(4));
        PaintBank last = after("lane 2;lane 2;" + cars("aaaa"), "enter 0;");
        DUE.same("its color with one place left", last.laneFor(3), 0);
        last.enter(0);
        DUE.same("its color without a place", last.laneFor(3), 1);
    }

    private static void laneOfTheColor() {
        DUE.sentence("the lowest one is chosen whose last car has the same color");
        PaintBank bank = after("lane 6;lane 6;lane 6;lane 6;" + cars("cbaabac"),
                "enter 0;enter 1;enter 2;enter 3;");
        DUE.same("a behind a, the lowest of two", bank.laneFor(5), 2);
        DUE.same("b behind b", bank.laneFor(4), 1);
        DUE.same("c behind c", bank.laneFor(6), 0);
        bank.enter(2);
        DUE.same("the last one counts: b", bank.laneFor(4), 1);
        DUE.same("the last one counts: a", bank.laneFor(5), 3);
        PaintBank longer = after("lane 6;lane 6;" + cars("bbbbba"), "repeat 5 (enter 1;);");
        DUE.same("a longer lane of the color", longer.laneFor(4), 1);
        DUE.same("an empty lane has no color", longer.laneFor(5), 0);
        PaintBank gone = after("lane 6;lane 6;" + cars("aab"), "enter 1;leave 1;");
        DUE.same("a car that has left its lane does not count", gone.laneFor(1), 0);
    }

    private static void laneOfTheFewest() {
        DUE.sentence("if there is none, the one with the fewest cars, the lowest one of several.");
        PaintBank bank = after("lane 6;lane 6;lane 6;lane 6;" + cars("bbbbbbac"),
                "enter 0;enter 0;enter 1;enter 1;enter 2;enter 3;");
        DUE.same("the lowest of two with one car", bank.laneFor(6), 2);
        bank.enter(2);
        DUE.same("the only one with one car", bank.laneFor(7), 3);
        PaintBank full = after("lane 1;lane 3;lane 3;" + cars("bbbbba"),
                "enter 0;enter 1;enter 1;enter 2;enter 2;");
        DUE.same("the fewest cars, but no room: the lowest of the others", full.laneFor(5), 1);
        PaintBank six = after("lane 6;lane 6;" + cars("bbbbbbbbbbba"),
                "repeat 6 (enter 0;);repeat 5 (enter 1;);");
        DUE.same("five cars, the last place of all", six.laneFor(11), 1);
        PaintBank equal = after("lane 6;lane 6;lane 6;lane 6;" + cars("bbbba"),
                "enter 3;enter 2;enter 1;enter 0;");
        DUE.same("all have one car", equal.laneFor(4), 0);
    }

    // ---- the lane to leave

    private static void toLeaveByColor() {
        DUE.sentence("To leave, of the lanes that a car can leave the lowest one is chosen whose first car has "
                + "the color of the hose");
        PaintBank bank = after("lane 6;lane 6;lane 6;lane 6;" + cars("aabaa"),
                "enter 0;leave 0;enter 3;enter 0;enter 2;enter 1;");
        DUE.same("step", bank.step(), 2);
        DUE.same("the lowest of three with a", bank.out(1), 4);
        bank.step();
        DUE.same("the next lowest", bank.out(2), 3);
        bank.step();
        DUE.same("the highest", bank.out(3), 1);
        bank.step();
        DUE.same("b when there is no a", bank.out(4), 2);
    }

    private static void toLeaveByNumber() {
        DUE.sentence("if there is none, the one whose first car has the least number.");
        PaintBank bank = after("lane 6;lane 6;lane 6;lane 6;" + cars("bacba"),
                "enter 3;enter 2;enter 1;enter 0;enter 0;");
        bank.step();
        DUE.same("no color of the hose: car 0 of b in lane 3", bank.out(0), 0);
        bank.step();
        DUE.same("b again", bank.out(1), 3);
        bank.step();
        DUE.same("no b: the least number", bank.out(2), 1);
        PaintBank low = after("lane 6;lane 6;lane 6;lane 6;" + cars("abca"), "enter 0;enter 1;enter 2;enter 3;");
        int[] order = {0, 3, 1, 2};
        for (int i = 0; i < 4; i++) {
            low.step();
            DUE.same("no color, a again, then the least number in a lower lane", low.out(i), order[i]);
        }
        PaintBank zero = after("lane 6;lane 6;" + cars("ba"), "enter 1;enter 0;");
        zero.step();
        DUE.same("no color is not color 0", zero.out(0), 0);
        PaintBank second = after("lane 6;lane 6;" + cars("baab"), "enter 1;leave 1;enter 1;enter 0;enter 0;");
        second.step();
        DUE.same("the first cars count, not those behind", second.out(1), 1);
        PaintBank last = after("lane 6;" + cars("aaaaaaaaaaab"), "repeat 11 (enter 0;leave 0;);enter 0;");
        DUE.same("car 11 of another color", last.step(), 2);
        DUE.same("it is out", last.out(11), 11);
    }

    private static void toLeaveOnlyWhoCan() {
        DUE.sentence("of the lanes that a car can leave");
        PaintBank early = after("lane 6;lane 6;window 1 11;" + cars("abba"), "enter 0;leave 0;enter 0;enter 0;"
                + "enter 1;");
        early.step();
        DUE.same("its color is two places too early", early.out(1), 1);
        DUE.yes("one place too early is allowed", early.canLeave(1));
        PaintBank bad = after("lane 6;lane 6;rework 1 delay 9;" + BAD + BAD + cars("b"),
                "enter 0;leave 0;enter 0;enter 1;");
        bad.step();
        DUE.same("its color has no rework lane", bad.out(0), 2);
        PaintBank least = after("lane 6;lane 6;rework 0 delay 9;" + BAD + cars("bc"), "enter 0;enter 1;enter 1;");
        least.step();
        DUE.same("the least number has none either", least.out(0), 1);
    }

    // ---- looking ahead

    private static void stepNumbers() {
        DUE.sentence("steps: 0 to 300 [..] Throws IllegalArgumentException if steps is out of range");
        for (PaintBank bank : new PaintBank[] {new PaintBank(), after("lane 1;" + cars("ab"), "step 1;")}) {
            for (int steps : new int[] {-1, 301, FAR[0], FAR[1]}) {
                DUE.argument("ruleCost " + steps, () -> bank.ruleCost(steps));
                DUE.argument("ruleOut " + steps, () -> bank.ruleOut(steps));
            }
            for (int steps : new int[] {0, 1, 299, 300}) {
                int cost = bank.setting(2) > 0 && steps > 1 ? 4 : 0;
                DUE.same("ruleCost " + steps, bank.ruleCost(steps), cost);
                DUE.same("ruleOut " + steps, bank.ruleOut(steps),
                        bank.setting(2) == 0 ? 0 : steps > 1 ? 2 : steps);
            }
        }
    }

    private static void carNumbers() {
        DUE.sentence("The parameters car, color and lane are numbers of existing ones; otherwise "
                + "IndexOutOfBoundsException is thrown.");
        for (int count : new int[] {0, 1, 12}) {
            PaintBank bank = after("lane 6;" + cars("a".repeat(count)), "");
            for (int car : new int[] {-1, count, count + 1, FAR[0], FAR[1]}) {
                DUE.outside("stepsToOut " + car, () -> bank.stepsToOut(car));
                DUE.outside("laneFor " + car, () -> bank.laneFor(car));
            }
            for (int car = 0; car < count; car++) {
                DUE.same("laneFor " + car, bank.laneFor(car), 0);
                DUE.yes("stepsToOut " + car, bank.stepsToOut(car) > 0);
            }
        }
    }

    private static void noSteps() {
        DUE.sentence("Returns the cost behind so many steps by the rule [..] Returns the number of cars that are "
                + "out then.");
        PaintBank bank = after("lane 6;" + cars("aba"), "enter 0;leave 0;enter 0;leave 0;");
        DUE.same("ruleCost 0", bank.ruleCost(0), 4);
        DUE.same("ruleOut 0", bank.ruleOut(0), 2);
        DUE.same("ruleCost 1", bank.ruleCost(1), 4);
        DUE.same("ruleOut 1", bank.ruleOut(1), 2);
        DUE.same("ruleCost 2", bank.ruleCost(2), 7);
        DUE.same("ruleOut 2", bank.ruleOut(2), 3);
        DUE.same("ruleCost 3, one more than can be made", bank.ruleCost(3), 7);
        DUE.same("ruleOut 3, one more than can be made", bank.ruleOut(3), 3);
    }

    private static void asManyAsCanBeMade() {
        DUE.sentence("behind so many steps by the rule, or as many as can be made.");
        PaintBank none = after(cars("a"), "");
        DUE.same("ruleCost without a step", none.ruleCost(300), 0);
        DUE.same("ruleOut without a step", none.ruleOut(300), 0);
        PaintBank stuck = after("lane 6;lane 6;rework 0 delay 0;" + BAD + cars("ab"), "");
        DUE.same("ruleOut behind a car that cannot leave", stuck.ruleOut(300), 1);
        PaintBank waits = after("lane 1;rework 1 delay 1;" + cars("a") + BAD + BAD + cars("b"), "");
        DUE.same("ruleOut when only waits are left", waits.ruleOut(300), 1);
        DUE.same("ruleCost when only waits are left", waits.ruleCost(300), 0);
    }

    private static void eachStep() {
        DUE.sentence("Returns the cost behind so many steps by the rule");
        String setup = "lane 2;lane 1;batch 1 purge 9;rework 2 delay 3;" + cars("ab") + BAD + cars("cba") + BAD;
        PaintBank ahead = after(setup, "");
        PaintBank bank = after(setup, "");
        for (int steps = 0; steps <= 40; steps++) {
            DUE.same("ruleCost " + steps, ahead.ruleCost(steps), bank.cost());
            DUE.same("ruleOut " + steps, ahead.ruleOut(steps), bank.outCount());
            bank.step();
        }
        DUE.same("all are out", bank.outCount(), 7);
    }

    private static void threeHundred() {
        DUE.sentence("NONE if it is not behind 300 steps, or as many as can be made.");
        PaintBank bank = after("lane 1;rework 1 delay 9;" + "car a body 0 bad 2;", "");
        DUE.same("1 to enter, 3 paintings, 2 times back, 18 waits", bank.stepsToOut(0), 24);
        DUE.same("ruleOut 23", bank.ruleOut(23), 0);
        DUE.same("ruleOut 24", bank.ruleOut(24), 1);
        PaintBank never = after("lane 1;rework 1 delay 0;" + BAD + BAD, "enter 0;leave 0;enter 0;");
        DUE.none("waits without an end", never.stepsToOut(0));
        DUE.none("waits without an end for the other one", never.stepsToOut(1));
        DUE.same("ruleOut 300", never.ruleOut(300), 0);
    }

    private static void leastSteps() {
        DUE.sentence("Returns the least number of steps by the rule until a car is out, 0 if it is");
        PaintBank bank = after("lane 1;" + cars("aaaaaaaaaaaa"), "");
        for (int car = 0; car < 12; car++) {
            DUE.same("stepsToOut " + car, bank.stepsToOut(car), 2 * car + 2);
        }
        bank.step();
        DUE.same("behind one step", bank.stepsToOut(0), 1);
        bank.step();
        DUE.same("when it is out", bank.stepsToOut(0), 0);
        DUE.same("of the next one", bank.stepsToOut(1), 2);
        DUE.same("of the last one", bank.stepsToOut(11), 22);
    }

    private static void neverOut() {
        DUE.sentence("NONE if it is not behind 300 steps, or as many as can be made.");
        PaintBank bank = after("lane 2;lane 1;rework 0 delay 0;" + BAD + cars("ab"), "");
        // Car 0 stays at the head of lane 0, with car 1 behind it; car 2 leaves lane 1.
        DUE.none("a car that cannot leave", bank.stepsToOut(0));
        DUE.none("a car behind it", bank.stepsToOut(1));
        DUE.same("a car beside them", bank.stepsToOut(2), 4);
        DUE.none("a car without a lane", after(cars("a"), "").stepsToOut(0));
    }

    private static void laneForAnyCar() {
        DUE.sentence("Returns the lane that the rule chooses for a car, wherever the car is");
        PaintBank bank = after("lane 6;lane 6;lane 6;rework 1 delay 0;" + BAD + cars("abcb"),
                "enter 0;leave 0;enter 2;enter 1;enter 0;leave 0;");
        DUE.same("in the rework lane", bank.laneFor(0), 2);
        DUE.same("in a lane, at its end itself", bank.laneFor(1), 2);
        DUE.same("in a lane", bank.laneFor(2), 1);
        DUE.same("out", bank.laneFor(3), 0);
        DUE.same("waiting", bank.laneFor(4), 1);
    }

    private static void noLaneHasRoom() {
        DUE.sentence("NONE if no lane has room.");
        DUE.none("no lane", after(cars("a"), "").laneFor(0));
        PaintBank bank = after("lane 1;lane 2;" + cars("aaab"), "enter 0;enter 1;");
        DUE.same("the last place", bank.laneFor(3), 1);
        bank.enter(1);
        for (int car = 0; car < 4; car++) {
            DUE.none("all are full, car " + car, bank.laneFor(car));
        }
        bank.leave(0);
        DUE.same("one place again", bank.laneFor(3), 0);
    }

    private static PaintBank busy() {
        PaintBank bank = after("lane 2;lane 1;batch 1 purge 9;rework 2 delay 3;" + cars("ab") + BAD + cars("c"),
                "step 3;");
        bank.save();
        bank.enter(0);
        bank.report();
        return bank;
    }

    private static void looks(String what, ToIntFunction<PaintBank> call) {
        PaintBank bank = busy();
        call.applyAsInt(bank);
        DUE.same("all behind " + what, Look.through(bank), Look.through(busy()));
    }

    private static void nothingChanges() {
        DUE.sentence("looking ahead; nothing changes");
        looks("ruleCost", bank -> bank.ruleCost(300));
        looks("ruleOut", bank -> bank.ruleOut(300));
        looks("stepsToOut", bank -> bank.stepsToOut(3));
        looks("laneFor", bank -> bank.laneFor(3));
        looks("unloadCost", bank -> bank.unloadCost());
        looks("unloadLane", bank -> bank.unloadLane(0));
        looks("swapChanges", bank -> bank.swapChanges());
        looks("swapColor", bank -> bank.swapColor(0));
        looks("bound", bank -> bank.bound() + bank.laneBound());
    }
}
