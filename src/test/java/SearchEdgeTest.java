import java.util.function.ToIntFunction;

/** The edges of sections 4 and 5 and of promises 39, 40 and 45 to 52: unloadings and exchanges. */
public final class SearchEdgeTest {
    private static final Due DUE = new Due();
    private static final String FREE = "color a change 0;color b change 0;color c change 0;";
    private static final String COLORS = "color a change 3;color b change 4;color c change 5;"
            + "color d change 6;color e change 99;";
    private static final String LANES = "lane 6;lane 6;lane 6;lane 6;";
    private static final int[] FAR = {Integer.MIN_VALUE, Integer.MAX_VALUE};

    public static void main(String[] args) {
        noCarInTheLanes();
        allCarsInTheLanes();
        asIfItWouldNotFail();
        placesAhead();
        placesBack();
        placesOfAll();
        noAllowedOne();
        costOfChanges();
        costOfPurges();
        fewestChanges();
        lowestLanes();
        timeIsNoMatter();
        unloadLanes();
        unloadCount();
        unloadNone();
        unloadUntilOneCannot();
        unloadUntilOneFails();
        boundOfNone();
        boundWithAHose();
        boundWithoutAHose();
        boundOfWhichCars();
        placesInTheRow();
        sameBody();
        spanApart();
        eachJobOnce();
        thisRowAlone();
        leastOften();
        firstRow();
        changesOfFew();
        colorsOfTheRow();
        swapCount();
        swapNone();
        nothingElse();
        askedFirst();
        askedAgain();
        swappedAgain();
        DUE.end();
    }

    private static PaintBank after(String setup, String script) {
        PaintBank bank = Due.with(setup);
        Due.play(bank, script);
        return bank;
    }

    /** Cars by their colors, with body 0. */
    private static String cars(String colors) {
        StringBuilder text = new StringBuilder();
        for (char color : colors.toCharArray()) {
            text.append("car ").append(color).append(" body 0;");
        }
        return text.toString();
    }

    /** Cars enter lanes as they are listed. */
    private static PaintBank loaded(String setup, String lanes) {
        PaintBank bank = Due.with(setup);
        for (char lane : lanes.toCharArray()) {
            bank.enter(lane - '0');
        }
        return bank;
    }

    private static void lanes(String what, PaintBank bank, String want) {
        StringBuilder got = new StringBuilder();
        for (int i = 0; i < 12 && bank.unloadLane(i) != PaintBank.NONE; i++) {
            got.append(bank.unloadLane(i));
        }
        DUE.same("lanes of " + what, got.toString(), want);
    }

    private static void best(String what, PaintBank bank, int cost, int changes, String lanes) {
        DUE.same("unloadCost of " + what, bank.unloadCost(), cost);
        DUE.same("unloadChanges of " + what, bank.unloadChanges(), changes);
        lanes(what, bank, lanes);
    }

    // ---- unloading

    private static void noCarInTheLanes() {
        DUE.sentence("Returns the cost of the best unloading; 0 if no car is in the lanes");
        best("no setup", new PaintBank(), 0, 0, "");
        best("no lane", Due.with(COLORS + cars("ab")), 0, 0, "");
        best("empty lanes", Due.with(COLORS + LANES + cars("ab")), 0, 0, "");
        PaintBank bank = Due.with(COLORS + LANES + "rework 1 delay 0;car a body 0 bad 1;" + cars("a"));
        bank.enter(0);
        best("one car", bank, 0, 0, "0");
        bank.leave(0);
        best("a car in the rework lane", bank, 0, 0, "");
        Due.play(bank, "back 0;leave 0;");
        best("a car that is out", bank, 0, 0, "");
    }

    private static void allCarsInTheLanes() {
        DUE.sentence("An unloading is a sequence of lanes by which all cars in the lanes leave, one behind the "
                + "other, and nothing else happens");
        best("one in the last lane", loaded(COLORS + LANES + cars("ab"), "3"), 0, 0, "3");
        best("twelve in four lanes", loaded(FREE + LANES + cars("aaaaaaaaaaaa"), "012301230123"), 0, 0,
                "000111222333");
        best("twelve in two lanes", loaded(FREE + LANES + cars("aaaaaaaaaaaa"), "222222111111"), 0, 0,
                "111111222222");
        String slow = lanesBySlowSearch();
        best("twelve in lanes of 6 3 2 1", loaded(FREE + LANES + cars("abcabcabcabc"), "000000111223"), 0,
                slow.charAt(12) - '0', slow.substring(0, 12));
        // Cars that wait would make no change; they do not take part.
        best("others wait", loaded(COLORS + LANES + cars("aba"), "00"), 4, 1, "00");
    }

    /** For abcabc abc ab c in lanes 0 to 3 the lanes of the fewest changes, and how many these are. */
    private static String lanesBySlowSearch() {
        String[] rows = {"abcabc", "abc", "ab", "c"};
        for (int changes = 0; changes < 12; changes++) {
            String found = tried(rows, new int[4], ' ', changes, "");
            if (!found.isEmpty()) {
                return found + changes;
            }
        }
        return "";
    }

    /** The lowest lanes by which so many changes are enough, by trying all; an empty text if none are. */
    private static String tried(String[] rows, int[] taken, char hose, int changes, String lanes) {
        if (changes < 0 || lanes.length() == 12) {
            return changes < 0 ? "" : lanes;
        }
        for (int lane = 0; lane < 4; lane++) {
            if (taken[lane] < rows[lane].length()) {
                char color = rows[lane].charAt(taken[lane]++);
                int left = hose == ' ' || hose == color ? changes : changes - 1;
                String found = tried(rows, taken, color, left, lanes + lane);
                taken[lane]--;
                if (!found.isEmpty()) {
                    return found;
                }
            }
        }
        return "";
    }

    private static void asIfItWouldNotFail() {
        DUE.sentence("it is looked at as if painting would not fail.");
        best("cars that fail", loaded(COLORS + LANES + "rework 0 delay 0;window 0 0;car a body 0 bad 2;"
                + "car b body 0 bad 1;" + cars("b"), "010"), 4, 1, "010");
    }

    /** Car 2 is the only one in the lanes, and none is out: it would go to place 0. */
    private static PaintBank early(int ahead) {
        return after(COLORS + LANES + "rework 2 delay 9;window " + ahead + " 0;car a body 0 bad 1;"
                + "car a body 0 bad 1;" + cars("a"), "enter 0;enter 0;leave 0;leave 0;enter 0;");
    }

    private static void placesAhead() {
        DUE.sentence("It is allowed if each car would go out to a place from its place in the sequence less how "
                + "much it may move ahead");
        best("2 to 0, ahead 2", early(2), 0, 0, "0");
        best("2 to 0, ahead 11", early(11), 0, 0, "0");
        best("2 to 0, ahead 1", early(1), -1, -1, "");
        best("2 to 0, ahead 0", early(0), -1, -1, "");
        // The last of twelve to place 0 is allowed by 11, not by 10.
        String setup = COLORS + LANES + cars("aaaaaaaaaaae");
        PaintBank eleven = loaded(setup + "window 11 11;", "000000111112");
        best("11 to 0, ahead 11", eleven, 3, 1, "200000011111");
        PaintBank ten = loaded(setup + "window 10 11;", "000000111112");
        best("11 to 11, ahead 10", ten, 99, 1, "000000111112");
    }

    /** Cars 1 and 2 are out, and car 0, which failed, would go to place 2. */
    private static PaintBank delayed(int behind) {
        return after(COLORS + LANES + "rework 2 delay 0;window 11 " + behind + ";car a body 0 bad 1;"
                + cars("aaa"), "repeat 3 (enter 0;leave 0;);back 0;");
    }

    private static void placesBack() {
        DUE.sentence("to that plus how much it may move back.");
        best("0 to 2, back 2", delayed(2), 0, 0, "0");
        best("0 to 2, back 11", delayed(11), 0, 0, "0");
        best("0 to 2, back 1", delayed(1), -1, -1, "");
        best("0 to 2, back 0", delayed(0), -1, -1, "");
        // The first of twelve to place 11 is allowed by 11, not by 10.
        String setup = COLORS + LANES + cars("eaaaaaaaaaaa");
        PaintBank eleven = loaded(setup + "window 11 11;", "200000011111");
        best("e at the start, as it costs least there", eleven, 3, 1, "200000011111");
        String late = COLORS + LANES + cars("aebbbbbbbbbb");
        best("e first, ahead 1", loaded(late + "window 1 11;", "012222223333"), 7, 2, "102222223333");
        best("e at its place, ahead 0", loaded(late + "window 0 11;", "012222223333"), 103, 2,
                "012222223333");
        String hosed = COLORS + LANES + "car a body 0;car e body 0;" + cars("aaaaaaaaaa");
        best("e to 11, back 10", after(hosed + "window 11 10;", "enter 0;leave 0;enter 0;repeat 6 (enter 1;);"
                + "repeat 4 (enter 2;);"), 99, 1, "11111122220");
        best("e not to 11, back 9", after(hosed + "window 11 9;", "enter 0;leave 0;enter 0;repeat 6 (enter 1;);"
                + "repeat 4 (enter 2;);"), 102, 2, "01111112222");
    }

    private static void placesOfAll() {
        DUE.sentence("It is allowed if each car would go out to a place");
        // a b a b in lanes a a and b b: to bring the a's together moves car 2 by 1 and car 1 by 1.
        String row = COLORS + LANES + cars("abab");
        best("1 ahead, 1 back", loaded(row + "window 1 1;", "0101"), 4, 1, "0011");
        best("0 ahead", loaded(row + "window 0 1;", "0101"), 11, 3, "0101");
        best("0 back", loaded(row + "window 1 0;", "0101"), 11, 3, "0101");
        best("b b a a: 1 ahead, 2 back", loaded(row + "window 2 2;", "0101"), 3, 1, "1100");
        best("b b a a is not allowed by 1 back", loaded(row + "window 2 1;", "0101"), 4, 1, "0011");
        best("b b a a is not allowed by 1 ahead", loaded(row + "window 1 2;", "0101"), 4, 1, "0011");
    }

    private static void noAllowedOne() {
        DUE.sentence("NONE if there is no allowed one.");
        PaintBank bank = early(1);
        DUE.none("unloadCost", bank.unloadCost());
        DUE.none("unloadChanges", bank.unloadChanges());
        DUE.none("unloadLane 0", bank.unloadLane(0));
        DUE.none("unload", bank.unload());
        DUE.same("the car stays", bank.laneLength(0), 1);
        DUE.same("nothing is painted", bank.logCount(), 2);
        // The first cars may leave, but a later one would come too late.
        PaintBank later = after(COLORS + LANES + "rework 2 delay 0;window 11 2;car a body 0 bad 1;"
                + cars("aaa"), "repeat 3 (enter 0;leave 0;);enter 0;back 0;");
        best("car 3, then car 0 to place 3", later, -1, -1, "");
        DUE.yes("though car 3 can leave", later.canLeave(0));
        DUE.none("unload then", later.unload());
        DUE.same("none has left", later.outCount(), 2);
        PaintBank side = after(COLORS + LANES + "rework 2 delay 0;window 11 2;car a body 0 bad 1;"
                + cars("aaa"), "repeat 3 (enter 0;leave 0;);enter 0;back 1;");
        best("car 0 to place 2, then car 3", side, 0, 0, "10");
    }

    private static void costOfChanges() {
        DUE.sentence("Its cost is what changes and purges would cost.");
        best("a hose without a color", loaded(COLORS + LANES + cars("e"), "0"), 0, 0, "0");
        best("another color", after(COLORS + LANES + cars("ae"), "enter 0;leave 0;enter 0;"), 99, 1, "0");
        best("the same color", after(COLORS + LANES + cars("ee"), "enter 0;leave 0;enter 0;"), 0, 0, "0");
        String high = "color a change 99;color b change 99;" + LANES + cars("abababababab");
        best("eleven changes", loaded(high + "window 0 0;", "000000111111"), 1089, 11, "000000111111");
        best("a b a b in two lanes", loaded(high, "000000111111"), 495, 5, "010101010101");
        // e, the dearest, can only come behind d, so that d is the one that is free.
        best("five colors", loaded(COLORS + LANES + cars("abcde"), "01233"), 111, 4, "30123");
    }

    private static void costOfPurges() {
        DUE.sentence("Its cost is what changes and purges would cost.");
        for (int batch = 1; batch <= 9; batch++) {
            String setup = FREE + LANES + "batch " + batch + " purge 7;" + cars("aaaaaaaaaaaa");
            PaintBank whole = loaded(setup, "000000111111");
            DUE.same("twelve, batch " + batch, whole.unloadCost(), 7 * (11 / batch));
            // At most six cars go into lane 1.
            PaintBank part = after(setup, "enter 0;leave 0;repeat " + batch + " (enter 1;);");
            DUE.same("behind a run of 1, batch " + batch, part.unloadCost(), batch <= 6 ? 7 : 0);
            DUE.same("which is no change", part.unloadChanges(), 0);
        }
        PaintBank less = after(FREE + LANES + "batch 3 purge 7;" + cars("aaa"), "enter 0;leave 0;repeat 2 (enter 0;);");
        DUE.same("a run as great as the batch", less.unloadCost(), 0);
        PaintBank one = after(FREE + LANES + "batch 3 purge 7;" + cars("aaaa"), "repeat 3 (enter 0;leave 0;);enter 0;");
        DUE.same("one car behind it", one.unloadCost(), 7);
        PaintBank round = loaded(FREE + LANES + "batch 1 purge 99;" + cars("aab"), "001");
        best("a free change in place of a purge", round, 0, 2, "010");
    }

    private static void fewestChanges() {
        DUE.sentence("The best one is allowed, has the least cost, of these the fewest changes");
        best("all is free", loaded(FREE + LANES + cars("abab"), "0011"), 0, 1, "0101");
        best("cost before changes", loaded("color a change 1;color b change 0;" + LANES + "batch 1 purge 2;"
                + cars("aab"), "001"), 1, 2, "010");
        best("changes when the cost is the same", loaded("color a change 2;color b change 0;" + LANES
                + "batch 1 purge 2;" + cars("aab"), "001"), 2, 1, "001");
        best("a purge that is free is no change", loaded(FREE + LANES + "batch 1 purge 0;" + cars("aab"), "001"),
                0, 1, "001");
    }

    private static void lowestLanes() {
        DUE.sentence("and of these the lowest first lane, then the lowest second lane, and so on.");
        best("all equal", loaded(FREE + LANES + cars("aaaa"), "3210"), 0, 0, "0123");
        best("two in each", loaded(FREE + LANES + cars("aaaaaa"), "332211"), 0, 0, "112233");
        best("b or c first", loaded(FREE + LANES + cars("bc"), "10"), 0, 1, "01");
        best("b, then c or a", loaded(FREE + LANES + cars("bca"), "021"), 0, 2, "012");
        best("the first lane is higher if it must be", loaded(COLORS + LANES + cars("ba"), "10"), 3, 1, "10");
        best("the second one is higher if it must be", loaded(COLORS + LANES + cars("bab"), "012"), 3, 1, "021");
        best("lane 0 last", loaded(COLORS + LANES + cars("aaab") + "window 11 11;", "1230"), 3, 1, "0123");
    }

    private static void passTo(PaintBank bank, int time) {
        Due.play(bank, "repeat 20 (repeat 5 (wait 99;););");
        for (int i = bank.time(); i < time; i++) {
            Due.play(bank, "wait 1;");
        }
    }

    private static void timeIsNoMatter() {
        DUE.sentence("(The time of 9999 does not matter.)");
        PaintBank bank = loaded(COLORS + LANES + cars("aba"), "010");
        passTo(bank, 9998);
        best("three cars at 9998", bank, 3, 1, "100");
        DUE.same("unload at 9998: one leaves", bank.unload(), 1);
        DUE.same("time", bank.time(), 9999);
        best("two cars at 9999", bank, 3, 1, "00");
        DUE.none("unload at 9999", bank.unload());
        DUE.same("those that are left", bank.laneLength(0), 2);
    }

    private static void unloadLanes() {
        DUE.sentence("Returns lane i, from 0, of the best unloading; NONE if there is none.");
        PaintBank bank = loaded(FREE + LANES + cars("aaaaaaaaaaaa"), "000111222333");
        for (int i = 0; i < 12; i++) {
            DUE.same("unloadLane " + i, bank.unloadLane(i), i / 3);
        }
        for (int i : new int[] {-1, 12, 13, FAR[0], FAR[1]}) {
            DUE.none("unloadLane " + i, bank.unloadLane(i));
            DUE.none("unloadLane " + i + " without a car", new PaintBank().unloadLane(i));
        }
        DUE.none("unloadLane 0 without a car", new PaintBank().unloadLane(0));
        bank.leave(0);
        DUE.none("unloadLane 11 of eleven", bank.unloadLane(11));
        DUE.same("unloadLane 10 of eleven", bank.unloadLane(10), 3);
    }

    private static void unloadCount() {
        DUE.sentence("Makes the best unloading, lane by lane [..] @return the number of cars that left");
        DUE.same("one", loaded(COLORS + LANES + cars("a"), "3").unload(), 1);
        PaintBank bank = loaded(FREE + LANES + cars("aaaaaaaaaaaa"), "012301230123");
        DUE.same("twelve", bank.unload(), 12);
        for (int i = 0; i < 12; i++) {
            DUE.same("out " + i, bank.out(i), i % 3 * 4 + i / 3);
        }
        DUE.same("time", bank.time(), 12);
        DUE.same("undone at once", bank.undo(), 5);
        DUE.same("outCount undone", bank.outCount(), 0);
    }

    private static void unloadNone() {
        DUE.sentence("(NONE also if there is no allowed unloading, or no car in the lanes)");
        DUE.none("no setup", new PaintBank().unload());
        DUE.none("empty lanes", Due.with(COLORS + LANES + cars("ab")).unload());
        DUE.none("no allowed unloading", early(1).unload());
        PaintBank bank = loaded(COLORS + LANES + cars("a"), "0");
        bank.unload();
        DUE.none("a second unload", bank.unload());
        DUE.same("which cannot be undone", bank.undo(), 1);
    }

    private static void unloadUntilOneCannot() {
        DUE.sentence("until a car cannot leave or its painting failed.");
        String setup = COLORS + LANES + "rework 0 delay 0;" + cars("aa") + "car a body 0 bad 1;" + cars("a");
        PaintBank bank = loaded(setup, "0000");
        DUE.same("two before one that has no rework lane", bank.unload(), 2);
        DUE.same("the others stay", bank.laneLength(0), 2);
        DUE.same("time", bank.time(), 2);
        DUE.none("none before it", bank.unload());
        PaintBank last = loaded(setup, "0012");
        DUE.same("the others may leave, but it stops there", last.unload(), 2);
        DUE.same("car 3 stays", last.where(3), 1);
    }

    private static void unloadUntilOneFails() {
        DUE.sentence("until a car cannot leave or its painting failed.");
        String setup = COLORS + LANES + "rework 3 delay 0;";
        PaintBank first = loaded(setup + "car a body 0 bad 1;" + cars("aa"), "000");
        DUE.same("the first one failed", first.unload(), 1);
        DUE.same("where", first.where(0), 2);
        DUE.same("the others stay", first.laneLength(0), 2);
        DUE.same("undo", first.undo(), 3);
        DUE.same("bad undone", first.bad(0), 1);
        PaintBank last = loaded(setup + cars("aa") + "car a body 0 bad 2;", "000");
        DUE.same("the last one failed", last.unload(), 3);
        DUE.same("where", last.where(2), 2);
        DUE.same("outCount", last.outCount(), 2);
        PaintBank two = loaded(setup + "car a body 0 bad 1;car a body 0 bad 1;", "01");
        DUE.same("only one fails at a time", two.unload(), 1);
        DUE.same("where the other one is", two.where(1), 1);
        DUE.same("the other one", two.unload(), 1);
        DUE.same("the rework lane", two.inRework(1), 1);
    }

    // ---- bounds

    private static void boundOfNone() {
        DUE.sentence("the sum of what changes cost to all colors that some of the cars have");
        DUE.same("laneBound without a setup", new PaintBank().laneBound(), 0);
        DUE.same("bound without a setup", new PaintBank().bound(), 0);
        DUE.same("bound without a car", Due.with(COLORS + LANES).bound(), 0);
        PaintBank bank = Due.with(COLORS + LANES + cars("ae"));
        DUE.same("laneBound of empty lanes", bank.laneBound(), 0);
        Due.play(bank, "repeat 2 (enter 0;leave 0;);");
        DUE.same("laneBound when all are out", bank.laneBound(), 0);
        DUE.same("bound when all are out", bank.bound(), 0);
    }

    private static void boundWithAHose() {
        DUE.sentence("but not to the color of the hose");
        PaintBank bank = after(COLORS + LANES + cars("bbedcba"), "enter 0;leave 0;repeat 6 (enter 0;);");
        DUE.same("all but that of the hose", bank.laneBound(), 3 + 5 + 6 + 99);
        DUE.same("bound, too", bank.bound(), 3 + 5 + 6 + 99);
        PaintBank only = after(COLORS + LANES + cars("eee"), "enter 0;leave 0;enter 0;");
        DUE.same("laneBound of that of the hose alone", only.laneBound(), 0);
        DUE.same("bound of that of the hose alone", only.bound(), 0);
        PaintBank zero = after(COLORS + LANES + cars("aab"), "enter 0;leave 0;enter 0;enter 0;");
        DUE.same("color 0 is in the hose", zero.laneBound(), 4);
        PaintBank other = after(COLORS + LANES + cars("ae"), "enter 0;leave 0;enter 0;");
        DUE.same("one other color, not less the greatest", other.laneBound(), 99);
    }

    private static void boundWithoutAHose() {
        DUE.sentence("if the hose has no color, less the greatest of these.");
        DUE.same("one color", loaded(COLORS + LANES + cars("e"), "0").laneBound(), 0);
        DUE.same("two colors", loaded(COLORS + LANES + cars("ea"), "00").laneBound(), 3);
        DUE.same("five colors", loaded(COLORS + LANES + cars("abcde"), "00000").laneBound(), 18);
        DUE.same("the greatest is the first one", loaded("color a change 9;color b change 2;color c change 5;"
                + LANES + cars("cba"), "000").laneBound(), 7);
        DUE.same("two that are the greatest", loaded("color a change 9;color b change 9;" + LANES + cars("ab"),
                "00").laneBound(), 9);
        DUE.same("the same color twice", loaded(COLORS + LANES + cars("abab"), "0000").laneBound(), 3);
        DUE.same("all is free", loaded(FREE + LANES + cars("abc"), "000").laneBound(), 0);
        DUE.same("bound of cars that wait", Due.with(COLORS + cars("abcde")).bound(), 18);
    }

    private static void boundOfWhichCars() {
        DUE.sentence("Returns the bound of the cars in the lanes. [..] Returns the bound of all cars that are not "
                + "out.");
        PaintBank bank = Due.with(COLORS + LANES + "rework 1 delay 0;car a body 0 bad 1;" + cars("bc"));
        DUE.same("laneBound, all wait", bank.laneBound(), 0);
        DUE.same("bound, all wait", bank.bound(), 7);
        bank.enter(0);
        bank.enter(3);
        DUE.same("laneBound of a b", bank.laneBound(), 3);
        DUE.same("bound of a b c", bank.bound(), 7);
        bank.leave(0);
        DUE.same("laneBound of b behind a", bank.laneBound(), 4);
        DUE.same("bound with a in the rework lane", bank.bound(), 9);
        bank.leave(3);
        DUE.same("bound behind b", bank.bound(), 8);
        Due.play(bank, "back 0;leave 0;");
        DUE.same("bound of c behind a", bank.bound(), 5);
    }

    // ---- exchanges

    private static String row(PaintBank bank) {
        StringBuilder colors = new StringBuilder();
        for (int i = 0; i < 12 && bank.swapColor(i) != PaintBank.NONE; i++) {
            colors.append((char) ('a' + bank.swapColor(i)));
        }
        return colors.toString();
    }

    private static void exchange(String what, String setup, int before, int changes, String want) {
        PaintBank bank = Due.with(COLORS + LANES + setup);
        DUE.same("waitingChanges of " + what, bank.waitingChanges(), before);
        DUE.same("swapChanges of " + what, bank.swapChanges(), changes);
        DUE.same("row of " + what, row(bank), want);
    }

    private static void placesInTheRow() {
        DUE.sentence("The cars that wait are taken by their places, from 0 for the first one.");
        exchange("twelve", cars("abababababab") + "span 11;", 11, 1, "aaaaaabbbbbb");
        PaintBank bank = loaded(COLORS + LANES + cars("abbabbab") + "span 2;", "000");
        DUE.same("the first one that waits is place 0", row(bank), "aabbb");
        DUE.same("waitingChanges", bank.waitingChanges(), 3);
        DUE.same("swapChanges", bank.swapChanges(), 1);
        DUE.none("behind the last one", bank.swapColor(5));
        DUE.same("swap", bank.swap(), 2);
        DUE.same("colorOf a car in a lane", bank.colorOf(1), 1);
        DUE.same("colorOf car 4", bank.colorOf(4), 0);
        DUE.same("colorOf car 6", bank.colorOf(6), 1);
    }

    private static void sameBody() {
        DUE.sentence("Each of them gets the job (the color) of one of them, perhaps its own, with the same body");
        for (int body = 0; body <= 3; body++) {
            String other = "car b body " + (body + 1) % 4 + ";";
            String own = "car b body " + body + ";car a body " + body + ";";
            exchange("b a of body " + body, own, 1, 1, "ab");
            exchange("of another body", other + "car a body " + body + ";", 1, 1, "ba");
        }
        exchange("aba, the b of another body", cars("a") + "car b body 1;" + cars("a"), 2, 2, "aba");
        exchange("three bodies", "car b body 0;car b body 1;car a body 0;car a body 1;car a body 2;", 1, 1,
                "bbaaa");
    }

    private static void spanApart() {
        DUE.sentence("and at most span places away");
        for (int apart = 1; apart <= 11; apart++) {
            // b at place 0, a at the last one, and a of another body between: a first is the lower row.
            String setup = cars("b") + "car a body 1;".repeat(apart - 1) + cars("a");
            String between = "a".repeat(apart - 1);
            exchange(apart + " apart, span " + apart, setup + "span " + apart + ";", 1, 1, "a" + between + "b");
            exchange(apart + " apart, span less", setup + "span " + (apart - 1) + ";", 1, 1,
                    "b" + between + "a");
        }
        exchange("3 apart, 2 without it", cars("b") + "car a body 1;car a body 1;" + cars("a"), 1, 1, "baaa");
        exchange("2 apart, 2 without it", cars("b") + "car a body 1;" + cars("a"), 1, 1, "aab");
        exchange("span 0", cars("baba") + "span 0;", 3, 3, "baba");
        exchange("jobs that go round", cars("bca") + "span 2;", 2, 2, "abc");
        exchange("jobs that go round, span 1", cars("bca") + "span 1;", 2, 2, "bac");
    }

    private static void eachJobOnce() {
        DUE.sentence("each job is used once.");
        exchange("one b among a's", cars("aabaa") + "span 11;", 2, 1, "aaaab");
        exchange("one a among b's", cars("bbabb") + "span 11;", 2, 1, "abbbb");
        exchange("five colors", cars("edcba") + "span 11;", 4, 4, "abcde");
        exchange("all the same", cars("cccccccccccc") + "span 11;", 0, 0, "cccccccccccc");
    }

    private static void thisRowAlone() {
        DUE.sentence("the colors that follow each other (in this row alone)");
        PaintBank bank = Due.with(COLORS + LANES + cars("bba") + "span 11;");
        bank.enter(0);
        DUE.same("behind a b in a lane", row(bank), "ab");
        bank.leave(0);
        DUE.same("behind a hose of b", row(bank), "ab");
        DUE.same("waitingChanges", bank.waitingChanges(), 1);
    }

    private static void leastOften() {
        DUE.sentence("An exchange is best if the colors that follow each other [..] are different least often");
        exchange("fewer changes before the lower row", cars("babb") + "span 2;", 2, 1, "abbb");
        exchange("abba, span 1: as it is", cars("abba") + "span 1;", 2, 2, "abba");
        exchange("abab, span 1", cars("abab") + "span 1;", 3, 1, "aabb");
        exchange("babab, span 1", cars("babab") + "span 1;", 4, 2, "abbba");
        exchange("bab with a fixed b at first", "car b body 1;" + cars("ab") + "span 1;", 2, 1, "bba");
    }

    private static void firstRow() {
        DUE.sentence("and of these the one whose row of colors (as numbers) comes first lexicographically.");
        exchange("ba", cars("ba"), 1, 1, "ab");
        exchange("cb", cars("cb"), 1, 1, "bc");
        exchange("eeaa", cars("eeaa") + "span 2;", 1, 1, "aaee");
        exchange("eeaa, span 1", cars("eeaa") + "span 1;", 1, 1, "eeaa");
        exchange("bcabca", cars("bcabca") + "span 11;", 5, 2, "aabbcc");
    }

    private static void changesOfFew() {
        DUE.sentence("Returns how often the colors that follow each other are different among the cars that wait.");
        DUE.same("none", new PaintBank().waitingChanges(), 0);
        DUE.same("swapChanges of none", new PaintBank().swapChanges(), 0);
        exchange("one", cars("e"), 0, 0, "e");
        exchange("two of a color", cars("ee"), 0, 0, "ee");
        exchange("two colors", cars("ab"), 1, 1, "ab");
        exchange("twelve, no two alike", cars("abcdeabcdeab") + "span 0;", 11, 11, "abcdeabcdeab");
        PaintBank last = loaded(COLORS + LANES + cars("abc"), "01");
        DUE.same("the last one alone", last.waitingChanges(), 0);
        last.enter(2);
        DUE.same("none any more", last.waitingChanges(), 0);
        DUE.same("swapChanges of none any more", last.swapChanges(), 0);
    }

    private static void colorsOfTheRow() {
        DUE.sentence("Returns the color that waiting car i, from 0 for the first one, has with the best exchange; "
                + "NONE if there is none.");
        for (int count : new int[] {0, 1, 11, 12}) {
            PaintBank bank = Due.with(COLORS + LANES + cars("e".repeat(count)));
            for (int i = 0; i < count; i++) {
                DUE.same("swapColor " + i + " of " + count, bank.swapColor(i), 4);
            }
            for (int i : new int[] {-1, count, count + 1, FAR[0], FAR[1]}) {
                DUE.none("swapColor " + i + " of " + count, bank.swapColor(i));
            }
        }
        PaintBank bank = loaded(COLORS + LANES + cars("eae"), "0");
        DUE.none("behind the last one that waits", bank.swapColor(2));
    }

    private static void swapCount() {
        DUE.sentence("Makes the best exchange of jobs. @return the number of cars whose color is another one then");
        DUE.same("two", Due.with(COLORS + cars("ba")).swap(), 2);
        DUE.same("three", Due.with(COLORS + cars("bca")).swap(), 3);
        DUE.same("all of twelve", Due.with(COLORS + cars("bbbbbbaaaaaa") + "span 11;").swap(), 12);
        PaintBank bank = Due.with(COLORS + cars("abab"));
        DUE.same("two of four", bank.swap(), 2);
        DUE.same("undo", bank.undo(), 0);
        DUE.same("colorOf 1 undone", bank.colorOf(1), 1);
    }

    private static void swapNone() {
        DUE.sentence("(NONE if it is 0)");
        DUE.none("no car", new PaintBank().swap());
        DUE.none("one car", Due.with(COLORS + cars("e")).swap());
        DUE.none("the best row already", Due.with(COLORS + cars("aabbcc")).swap());
        DUE.none("span 0", Due.with(COLORS + cars("baba") + "span 0;").swap());
        PaintBank bank = Due.with(COLORS + LANES + cars("ba"));
        bank.swap();
        DUE.none("a second swap", bank.swap());
        DUE.same("which cannot be undone", bank.undo(), 0);
        PaintBank entered = loaded(COLORS + LANES + cars("bba"), "00");
        DUE.none("the others do not wait", entered.swap());
    }

    private static void stays(String what, ToIntFunction<PaintBank> call) {
        PaintBank bank = early(1);
        PaintBank same = early(1);
        DUE.none(what, call.applyAsInt(bank));
        DUE.same("all behind " + what, Look.through(bank), Look.through(same));
    }

    private static void nothingElse() {
        DUE.sentence("each call returns NONE, and nothing changes, if it cannot be done");
        stays("unload", bank -> bank.unload());
        stays("swap", bank -> bank.swap());
        stays("unloadCost", bank -> bank.unloadCost());
    }

    // ---- the same calls always give the same answers, whatever was asked before

    private static PaintBank mixed() {
        return loaded(COLORS + LANES + cars("abcba") + "span 11;", "012");
    }

    private static void askedFirst() {
        DUE.sentence("Returns the number of changes of the best unloading");
        DUE.same("unloadCost", mixed().unloadCost(), 7);
        DUE.same("unloadChanges", mixed().unloadChanges(), 2);
        DUE.same("unloadLane 0", mixed().unloadLane(0), 2);
        DUE.same("unloadLane 2", mixed().unloadLane(2), 1);
        DUE.same("unload", mixed().unload(), 3);
        DUE.same("unload in a script", Due.play(mixed(), "unload;"), 1);
        DUE.same("swapChanges", mixed().swapChanges(), 1);
        DUE.same("swapColor 0", mixed().swapColor(0), 0);
        DUE.same("swapColor 1", mixed().swapColor(1), 1);
        DUE.same("swap", mixed().swap(), 2);
        DUE.same("swap in a script", Due.play(mixed(), "swap;"), 1);
    }

    private static void asked(String what, PaintBank bank, String unloading, String exchange) {
        DUE.same("unloadCost " + what, bank.unloadCost() + " " + bank.unloadChanges(), unloading);
        DUE.same("swapChanges " + what, bank.swapChanges() + " " + row(bank), exchange);
    }

    private static void askedAgain() {
        DUE.sentence("Returns the cost of the best unloading [..] Returns how often they are different with the best "
                + "exchange.");
        PaintBank bank = Due.with(COLORS + LANES + "rework 1 delay 0;span 11;car a body 0 bad 1;" + cars("bcbab"));
        asked("at first", bank, "0 0", "2 aabbbc");
        bank.enter(0);
        asked("behind an enter", bank, "0 0", "2 abbbc");
        bank.enter(1);
        asked("behind another one", bank, "3 1", "2 abbc");
        bank.enter(1);
        asked("behind a third one", bank, "8 2", "1 abb");
        bank.leave(0);
        asked("behind a leave", bank, "9 2", "1 abb");
        bank.back(1);
        asked("behind a back", bank, "12 3", "1 abb");
        bank.undo();
        asked("behind an undo", bank, "9 2", "1 abb");
        bank.swap();
        asked("behind a swap", bank, "9 2", "1 abb");
        bank.save();
        bank.unload();
        asked("behind an unload", bank, "0 0", "1 abb");
        bank.restore();
        asked("behind a restore", bank, "9 2", "1 abb");
        Due.play(bank, "leave 1;enter 2;");
        asked("behind a script", bank, "8 2", "0 bb");
        Due.type(bank, "color x change 9;color y change 8;car y body 0;car x body 0;lane 1;");
        bank.readSetup();
        asked("behind a setup", bank, "0 0", "1 ab");
        // An enter and a leave that are taken back together, and others in their place.
        PaintBank other = loaded(COLORS + LANES + cars("abcb"), "01");
        asked("with two cars", other, "3 1", "1 bc");
        other.enter(2);
        other.leave(0);
        asked("with two others", other, "9 2", "0 b");
        PaintBank waited = loaded(COLORS + LANES + cars("abcb"), "01");
        asked("before a wait", waited, "3 1", "1 bc");
        waited.waits();
        waited.enter(2);
        asked("behind a wait and an enter", waited, "7 2", "0 b");
        PaintBank swapped = loaded(COLORS + LANES + cars("acbb"), "0");
        asked("before a swap", swapped, "0 0", "1 bbc");
        swapped.swap();
        swapped.enter(1);
        asked("behind a swap and an enter", swapped, "3 1", "1 bc");
    }

    private static void swappedAgain() {
        DUE.sentence("Each of them gets the job (the color) of one of them, perhaps its own, with the same body and at "
                + "most span places away");
        PaintBank bank = Due.with(COLORS + cars("aabaa") + "span 1;");
        asked("at first", bank, "0 0", "2 aaaba");
        DUE.same("swap", bank.swap(), 2);
        asked("the jobs are nearer now", bank, "0 0", "1 aaaab");
        DUE.same("swap again", bank.swap(), 2);
        asked("behind it", bank, "0 0", "1 aaaab");
        DUE.none("swap a third time", bank.swap());
        PaintBank script = Due.with(COLORS + LANES + cars("aabaa") + "span 1;");
        DUE.same("in a script", Due.play(script, "swap;swap;swap;"), 3);
        DUE.same("waitingChanges", script.waitingChanges(), 1);
    }
}
