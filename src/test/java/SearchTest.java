/** Promises 39, 40 and 45 to 52: unloadings, exchanges and bounds. */
public final class SearchTest {
    private static final Due DUE = new Due();

    public static void main(String[] args) {
        leastCost();
        fewestChanges();
        lowestLanes();
        allowedPlaces();
        purgesOrChanges();
        unloadings();
        unloadingThatStops();
        bounds();
        exchanges();
        spans();
        lexicographic();
        swapping();
        large();
        DUE.end();
    }

    private static void lanes(String what, PaintBank bank, int... want) {
        for (int i = 0; i < want.length; i++) {
            DUE.same(what + ": unloadLane " + i, bank.unloadLane(i), want[i]);
        }
        DUE.same(what + ": unloadLane behind the last", bank.unloadLane(want.length), -1);
        DUE.same(what + ": unloadLane -1", bank.unloadLane(-1), -1);
        DUE.same(what + ": unloadLane, the least", bank.unloadLane(Integer.MIN_VALUE), -1);
        DUE.same(what + ": unloadLane, the greatest", bank.unloadLane(Integer.MAX_VALUE), -1);
    }

    private static void leastCost() {
        PaintBank bank = Due.with("color a change 5;color b change 7;lane 3;lane 3;"
                + "car a body 0;car b body 0;car a body 0;car b body 0;");
        DUE.same("unloadCost of none", bank.unloadCost(), 0);
        DUE.same("unloadChanges of none", bank.unloadChanges(), 0);
        lanes("none", bank);
        Due.play(bank, "enter 0;enter 0;enter 1;enter 1;");
        // Lanes ab and ab: a a b b with a hose without a color.
        DUE.same("unloadCost", bank.unloadCost(), 7);
        DUE.same("unloadChanges", bank.unloadChanges(), 1);
        lanes("ab ab", bank, 0, 1, 0, 1);
        bank.leave(0);
        // b and ab, the hose has a: a b b.
        DUE.same("unloadCost with a hose", bank.unloadCost(), 7);
        DUE.same("unloadChanges with a hose", bank.unloadChanges(), 1);
        lanes("b ab", bank, 1, 0, 1);

        // Lanes ba and ba: b b a a costs 5.
        PaintBank other = Due.with("color a change 5;color b change 7;lane 3;lane 3;"
                + "car b body 0;car a body 0;car b body 0;car a body 0;");
        Due.play(other, "enter 0;enter 0;enter 1;enter 1;");
        DUE.same("unloadCost of ba ba", other.unloadCost(), 5);
        // The first change is to be counted too when the hose has a color.
        PaintBank hosed = Due.with("color a change 5;color b change 7;lane 3;lane 3;"
                + "car a body 0;car b body 0;car b body 0;");
        Due.play(hosed, "enter 0;leave 0;enter 0;enter 1;");
        DUE.same("unloadCost of b b behind a", hosed.unloadCost(), 7);
        DUE.same("unloadChanges of b b behind a", hosed.unloadChanges(), 1);
    }

    private static void fewestChanges() {
        // All changes are free: a b a b in two lanes; fewest changes count.
        PaintBank bank = Due.with("color a change 0;color b change 0;lane 3;lane 3;"
                + "car a body 0;car b body 0;car b body 0;car a body 0;");
        Due.play(bank, "enter 0;enter 0;enter 1;enter 1;");
        // Lanes ab and ba: a b b a in the order 0 0 1 1, or b a a b in the order 1 0 1 0.
        DUE.same("unloadCost when free", bank.unloadCost(), 0);
        DUE.same("unloadChanges when free", bank.unloadChanges(), 2);
        lanes("free", bank, 0, 0, 1, 1);
        // A free color in between costs as little as no change, but is a change more.
        PaintBank free = Due.with("color a change 0;color b change 0;lane 2;lane 2;"
                + "car a body 0;car b body 0;car a body 0;");
        Due.play(free, "enter 0;enter 1;enter 0;");
        DUE.same("unloadChanges of aa b", free.unloadChanges(), 1);
        lanes("aa b", free, 0, 0, 1);
    }

    private static void lowestLanes() {
        PaintBank bank = Due.with("color a change 1;lane 2;lane 2;lane 2;car a body 0;car a body 0;"
                + "car a body 0;car a body 0;car a body 0;");
        Due.play(bank, "enter 2;enter 1;enter 2;enter 0;enter 1;");
        lanes("all equal", bank, 0, 1, 1, 2, 2);
        // b in lane 0 costs more at first than at last.
        PaintBank last = Due.with("color a change 1;color b change 9;lane 2;lane 2;lane 2;"
                + "car a body 0;car b body 0;car a body 0;car a body 0;");
        Due.play(last, "enter 2;enter 0;enter 1;enter 1;");
        // Hose without a color: b a a a costs 1, a a a b costs 9.
        DUE.same("b first", last.unloadCost(), 1);
        lanes("b first", last, 0, 1, 1, 2);
    }

    private static void allowedPlaces() {
        PaintBank bank = Due.with("color a change 5;color b change 5;lane 3;lane 3;window 1 1;"
                + "car a body 0;car b body 0;car a body 0;car b body 0;");
        Due.play(bank, "enter 0;enter 1;enter 0;enter 1;");
        // aa bb would put car 1 to 2, car 2 to 1: a a b b, two places from 1 to 2 are allowed.
        DUE.same("unloadCost within a window", bank.unloadCost(), 5);
        lanes("window 1 1", bank, 0, 0, 1, 1);
        PaintBank tight = Due.with("color a change 5;color b change 5;lane 3;lane 3;window 0 11;"
                + "car a body 0;car b body 0;car a body 0;car b body 0;");
        Due.play(tight, "enter 0;enter 1;enter 0;enter 1;");
        DUE.same("unloadCost of the sequence", tight.unloadCost(), 15);
        DUE.same("unloadChanges of the sequence", tight.unloadChanges(), 3);
        lanes("window 0 11", tight, 0, 1, 0, 1);
        PaintBank late = Due.with("color a change 5;color b change 5;lane 3;lane 3;window 11 0;"
                + "car a body 0;car b body 0;car a body 0;car b body 0;");
        Due.play(late, "enter 0;enter 1;enter 0;enter 1;");
        DUE.same("unloadCost without a place back", late.unloadCost(), 15);
        // Lane 0 is blocked by a later car.
        PaintBank none = Due.with("color a change 5;lane 3;lane 3;window 0 0;car a body 0;car a body 0;"
                + "car a body 0;rework 1 delay 0;");
        Due.play(none, "enter 0;enter 0;leave 0;enter 1;leave 0;");
        DUE.same("allowed still", none.unloadCost(), 0);
        PaintBank never = Due.with("color a change 5;lane 3;lane 3;window 0 0;car a body 0 bad 1;"
                + "car a body 0;rework 1 delay 0;");
        Due.play(never, "enter 0;leave 0;enter 0;back 0;");
        DUE.same("car 1 stands before car 0", never.inLane(0, 0), 1);
        DUE.same("unloadCost when none is allowed", never.unloadCost(), -1);
        DUE.same("unloadChanges when none is allowed", never.unloadChanges(), -1);
        lanes("none is allowed", never);
        DUE.same("unload when none is allowed", never.unload(), -1);
        DUE.same("a script's unload then", Due.play(never, "unload;wait 1;"), 0);
        // Painting that would fail is no matter, nor is it a place more.
        PaintBank bad = Due.with("color a change 5;lane 3;window 0 0;car a body 0 bad 2;car a body 0;"
                + "rework 0 delay 0;");
        Due.play(bad, "enter 0;enter 0;");
        DUE.same("unloadCost of cars that fail", bad.unloadCost(), 0);
        lanes("cars that fail", bad, 0, 0);
        // The cars that are out count for the places.
        PaintBank out = Due.with("color a change 5;color b change 6;lane 3;lane 3;window 1 0;"
                + "car a body 0;car b body 0;car a body 0;");
        Due.play(out, "enter 0;leave 0;enter 0;enter 1;");
        DUE.same("a b, then a: no car may go back", out.unloadCost(), 11);
        lanes("one is out", out, 0, 1);
        PaintBank gone = Due.with("color a change 5;color b change 6;lane 3;lane 3;window 11 0;"
                + "car a body 0 bad 1;car b body 0;car a body 0;");
        Due.play(gone, "enter 0;leave 0;enter 0;leave 0;enter 0;");
        DUE.same("car 1 out at 0, car 2 at 1", gone.unloadCost(), 5);
        Due.play(gone, "wait 3;back 0;");
        DUE.same("car 0 would come too late", gone.unloadCost(), -1);
    }

    private static void purgesOrChanges() {
        // A purge costs more than to change to b and back.
        PaintBank bank = Due.with("color a change 2;color b change 3;lane 3;lane 3;batch 2 purge 9;"
                + "car a body 0;car a body 0;car a body 0;car b body 0;");
        Due.play(bank, "enter 0;enter 0;enter 0;enter 1;");
        // b first: b a a purge a costs 2 + 9; a a b a costs 5; a b a a costs 5, too.
        DUE.same("unloadCost around a purge", bank.unloadCost(), 5);
        DUE.same("unloadChanges around a purge", bank.unloadChanges(), 2);
        lanes("around a purge", bank, 0, 0, 1, 0);
        // The run of the hose counts from before.
        PaintBank run = Due.with("color a change 2;color b change 3;lane 3;lane 3;batch 2 purge 9;"
                + "car a body 0;car a body 0;car a body 0;");
        Due.play(run, "enter 0;leave 0;enter 0;enter 0;");
        DUE.same("unloadCost with a run of 1", run.unloadCost(), 9);
        DUE.same("unloadChanges with a purge", run.unloadChanges(), 0);
        PaintBank cheap = Due.with("color a change 9;color b change 9;lane 3;lane 3;batch 1 purge 1;"
                + "car a body 0;car a body 0;car b body 0;car b body 0;");
        Due.play(cheap, "enter 0;enter 0;enter 1;enter 1;");
        DUE.same("two purges and a change", cheap.unloadCost(), 11);
        PaintBank equal = Due.with("color a change 4;color b change 4;lane 3;lane 3;batch 1 purge 8;"
                + "car b body 0;car a body 0;car a body 0;");
        Due.play(equal, "enter 1;enter 0;enter 0;");
        // a b a costs 8 by two changes; b a a costs 4 + 8; a a b costs 8 + 4.
        DUE.same("two changes", equal.unloadCost(), 8);
        PaintBank same = Due.with("color a change 4;color b change 4;lane 3;lane 3;batch 1 purge 4;"
                + "car b body 0;car a body 0;car a body 0;");
        Due.play(same, "enter 1;enter 0;enter 0;");
        // a b a costs 8 by two changes, a a b 8 by one and a purge.
        DUE.same("a purge is no change", same.unloadChanges(), 1);
        lanes("a purge is no change", same, 0, 0, 1);
    }

    private static void unloadings() {
        PaintBank bank = Due.with("color a change 5;color b change 7;lane 3;lane 3;"
                + "car a body 0;car b body 0;car a body 0;car b body 0;");
        DUE.same("unload of empty lanes", bank.unload(), -1);
        DUE.same("which is not kept", bank.undo(), -1);
        Due.play(bank, "enter 0;enter 0;enter 1;enter 1;");
        DUE.same("unload", bank.unload(), 4);
        int[] out = {0, 2, 1, 3};
        for (int i = 0; i < out.length; i++) {
            DUE.same("out " + i, bank.out(i), out[i]);
        }
        DUE.same("cost", bank.cost(), 7);
        DUE.same("time", bank.time(), 4);
        DUE.same("logCount", bank.logCount(), 4);
        DUE.same("unload again", bank.unload(), -1);
        DUE.same("undo of all of it at once", bank.undo(), 1);
        DUE.same("outCount undone", bank.outCount(), 0);
        DUE.same("cost undone", bank.cost(), 0);
        DUE.same("inLane undone", bank.inLane(1, 1), 3);
    }

    private static void unloadingThatStops() {
        PaintBank bank = Due.with("color a change 5;lane 3;lane 3;rework 1 delay 0;car a body 0;"
                + "car a body 0 bad 1;car a body 0;car a body 0 bad 1;");
        Due.play(bank, "enter 0;enter 0;enter 1;enter 1;");
        DUE.same("unload until a painting failed", bank.unload(), 2);
        DUE.same("one is out", bank.outCount(), 1);
        DUE.same("the failed one is in the rework lane", bank.inRework(0), 1);
        DUE.same("the others stay", bank.laneLength(1), 2);
        DUE.same("unload until one cannot leave", bank.unload(), 1);
        DUE.same("which is out", bank.out(1), 2);
        DUE.same("car 3 has no rework lane", bank.laneLength(1), 1);
        DUE.same("unload when the first cannot leave", bank.unload(), -1);
        DUE.same("undo of the second", bank.undo(), 2);
        DUE.same("out then", bank.outCount(), 1);
        DUE.same("undo of the first", bank.undo(), 1);
        DUE.same("rework then", bank.inRework(0), -1);
        DUE.same("bad then", bank.bad(1), 1);
    }

    private static void bounds() {
        PaintBank bank = Due.with("color a change 5;color b change 7;color c change 9;color d change 2;"
                + "lane 3;lane 3;rework 1 delay 0;"
                + "car a body 0;car b body 0 bad 1;car a body 0;car c body 0;");
        DUE.same("laneBound without cars", bank.laneBound(), 0);
        DUE.same("bound of all: a b c less the greatest", bank.bound(), 12);
        bank.enter(0);
        DUE.same("laneBound of one color", bank.laneBound(), 0);
        bank.enter(1);
        DUE.same("laneBound of a b", bank.laneBound(), 5);
        bank.leave(0);
        DUE.same("laneBound of b behind a", bank.laneBound(), 7);
        DUE.same("bound of b a c behind a", bank.bound(), 16);
        bank.leave(1);
        DUE.same("a car in the rework lane is not out", bank.bound(), 14);
        DUE.same("nor in the lanes", bank.laneBound(), 0);
        Due.play(bank, "back 0;enter 1;leave 0;leave 1;");
        DUE.same("bound of c behind a", bank.bound(), 9);
        Due.play(bank, "enter 0;");
        DUE.same("laneBound of c behind a", bank.laneBound(), 9);
        bank.leave(0);
        DUE.same("bound when all are out", bank.bound(), 0);
        DUE.same("bound without anything", new PaintBank().bound(), 0);
        DUE.same("bound of one car", Due.with("color a change 5;car a body 0;").bound(), 0);
    }

    private static void row(String what, PaintBank bank, int... want) {
        for (int i = 0; i < want.length; i++) {
            DUE.same(what + ": swapColor " + i, bank.swapColor(i), want[i]);
        }
        DUE.same(what + ": swapColor behind the last", bank.swapColor(want.length), -1);
        DUE.same(what + ": swapColor -1", bank.swapColor(-1), -1);
        DUE.same(what + ": swapColor, the least", bank.swapColor(Integer.MIN_VALUE), -1);
        DUE.same(what + ": swapColor, the greatest", bank.swapColor(Integer.MAX_VALUE), -1);
    }

    private static PaintBank cars(String colorsAndBodies, String more) {
        StringBuilder text = new StringBuilder("color a change 1;color b change 2;color c change 3;");
        text.append("color d change 4;color e change 5;lane 6;lane 6;");
        for (String car : colorsAndBodies.split(" ")) {
            text.append("car ").append(car.charAt(0)).append(" body ").append(car.charAt(1)).append(';');
        }
        return Due.with(text + more);
    }

    private static void exchanges() {
        PaintBank none = new PaintBank();
        DUE.same("waitingChanges of none", none.waitingChanges(), 0);
        DUE.same("swapChanges of none", none.swapChanges(), 0);
        row("none", none);
        PaintBank one = cars("c0", "");
        DUE.same("swapChanges of one", one.swapChanges(), 0);
        row("one", one, 2);
        PaintBank bank = cars("b0 a0 b0 a0", "");
        DUE.same("waitingChanges", bank.waitingChanges(), 3);
        DUE.same("swapChanges", bank.swapChanges(), 1);
        row("baba", bank, 0, 0, 1, 1);
        PaintBank bodies = cars("a0 b1 a0 b0", "");
        DUE.same("swapChanges with a body of its own", bodies.swapChanges(), 2);
        row("a0 b1 a0 b0", bodies, 0, 1, 1, 0);
        PaintBank mixed = cars("a0 b1 b0 a1", "");
        DUE.same("waitingChanges of abba", mixed.waitingChanges(), 2);
        DUE.same("swapChanges of pairs", mixed.swapChanges(), 1);
        row("a0 b1 b0 a1", mixed, 0, 0, 1, 1);
        DUE.same("nothing changed", mixed.colorOf(1), 1);
        // Only cars that wait take part.
        PaintBank entered = cars("b0 a0 b0 a0", "");
        entered.enter(0);
        DUE.same("waitingChanges of aba", entered.waitingChanges(), 2);
        DUE.same("swapChanges of aba", entered.swapChanges(), 1);
        row("aba", entered, 0, 0, 1);
    }

    private static void spans() {
        PaintBank zero = cars("b0 a0 b0 a0", "span 0;");
        DUE.same("swapChanges with a span of 0", zero.swapChanges(), 3);
        row("span 0", zero, 1, 0, 1, 0);
        DUE.same("swap with a span of 0", zero.swap(), -1);
        PaintBank one = cars("b0 a0 b0 a0 b0", "span 1;");
        // Of b b a a b and a b b b a, with two changes each, the second one comes first.
        DUE.same("swapChanges with a span of 1", one.swapChanges(), 2);
        row("span 1", one, 0, 1, 1, 1, 0);
        PaintBank far = cars("a0 b0 b0 a0", "span 2;");
        // To bring both a together one of them must move by two, the b's by one each.
        DUE.same("swapChanges with a span of 2", far.swapChanges(), 1);
        row("span 2", far, 0, 0, 1, 1);
        PaintBank near = cars("a0 b0 b0 b0 a0", "span 2;");
        // Two places together: a at 1 and a at 2, then b on both sides; or a and a apart.
        DUE.same("swapChanges of abbba", near.swapChanges(), 2);
        row("abbba", near, 0, 1, 1, 1, 0);
        PaintBank wide = cars("a0 b0 b0 b0 a0", "span 3;");
        DUE.same("swapChanges with a span of 3", wide.swapChanges(), 1);
        row("span 3", wide, 0, 0, 1, 1, 1);
    }

    private static void lexicographic() {
        PaintBank bank = cars("b0 b0 a0 a0", "span 2;");
        DUE.same("as few changes as before", bank.swapChanges(), 1);
        row("the first row", bank, 0, 0, 1, 1);
        PaintBank three = cars("c0 b0 a0", "");
        row("cba", three, 0, 1, 2);
        PaintBank short1 = cars("c0 b0 a0", "span 1;");
        row("cba with a span of 1", short1, 1, 2, 0);
        // Colors by their numbers, not by their names.
        PaintBank names = Due.with("color z change 1;color a change 1;car a body 0;car z body 0;");
        row("za", names, 0, 1);
    }

    private static void swapping() {
        PaintBank bank = cars("b0 a0 b0 a0", "");
        DUE.same("swap", bank.swap(), 2);
        int[] colors = {0, 0, 1, 1};
        for (int car = 0; car < colors.length; car++) {
            DUE.same("colorOf " + car, bank.colorOf(car), colors[car]);
        }
        DUE.same("waitingChanges then", bank.waitingChanges(), 1);
        DUE.same("swap again", bank.swap(), -1);
        DUE.same("undo", bank.undo(), 0);
        DUE.same("colorOf 0 undone", bank.colorOf(0), 1);
        DUE.same("colorOf 3 undone", bank.colorOf(3), 0);
        DUE.same("swap of no car", new PaintBank().swap(), -1);
        PaintBank part = cars("b0 a0 b0 a0", "");
        part.enter(0);
        DUE.same("swap among those that wait", part.swap(), 2);
        DUE.same("the one in the lane keeps its job", part.colorOf(0), 1);
        DUE.same("colorOf 2", part.colorOf(2), 0);
        DUE.same("colorOf 3", part.colorOf(3), 1);
        part.leave(0);
        DUE.same("the hose has its present job", part.hose(), 1);
    }

    private static void large() {
        PaintBank twelve = cars("a0 b0 c0 d0 e0 a0 b0 c0 d0 e0 a0 b0", "span 11;");
        DUE.same("waitingChanges of twelve", twelve.waitingChanges(), 11);
        DUE.same("swapChanges of twelve", twelve.swapChanges(), 4);
        row("twelve", twelve, 0, 0, 0, 1, 1, 1, 2, 2, 3, 3, 4, 4);
        DUE.same("swap of twelve", twelve.swap(), 9);
        PaintBank lanes = Due.with("color a change 1;color b change 1;color c change 1;lane 3;lane 3;"
                + "lane 3;lane 3;car a body 0;car b body 0;car c body 0;car b body 0;car c body 0;"
                + "car a body 0;car c body 0;car a body 0;car b body 0;car a body 0;car b body 0;"
                + "car c body 0;");
        Due.play(lanes, "repeat 3 (enter 0;);repeat 3 (enter 1;);repeat 3 (enter 2;);"
                + "repeat 3 (enter 3;);");
        // abc bca cab abc: two a, three b, four c, two a, one b.
        DUE.same("unloadChanges of twelve", lanes.unloadChanges(), 4);
        DUE.same("unloadCost of twelve", lanes.unloadCost(), 4);
        DUE.same("unload of twelve", lanes.unload(), 12);
        DUE.same("cost of twelve", lanes.cost(), 4);
        PaintBank six = Due.with("color a change 9;color b change 9;lane 6;lane 6;car a body 0;"
                + "car b body 0;car a body 0;car b body 0;car a body 0;car b body 0;car b body 0;"
                + "car a body 0;car b body 0;car a body 0;car b body 0;car a body 0;");
        Due.play(six, "repeat 6 (enter 0;);repeat 6 (enter 1;);");
        DUE.same("unloadCost of ababab bababa", six.unloadCost(), 54);
        lanes("ababab bababa", six, 0, 0, 1, 0, 1, 0, 1, 0, 1, 0, 1, 1);
    }
}
