/** Promises 8 to 15: what can be asked of a setup. */
public final class SetupTest {
    private static final Due DUE = new Due();
    private static final String SETUP = "color red change 5;color blue change 99;color mint change 0;"
            + "lane 2;lane 6;lane 1;"
            + "car red body 1;car blue body 3 bad 2;car red body 1 bad 1;car red body 0;car mint body 2;"
            + "car blue body 3;car red body 1;";

    public static void main(String[] args) {
        settings();
        numbers();
        jobsAndFailures();
        kinds();
        wrongNumbers();
        DUE.end();
    }

    private static void settings() {
        PaintBank bank = Due.with(SETUP + "window 4 5;batch 3 purge 17;rework 2 delay 8;span 9;");
        int[] want = {3, 3, 7, 4, 5, 3, 17, 2, 8, 9};
        for (int what = 0; what < want.length; what++) {
            DUE.same("setting " + what, bank.setting(what), want[what]);
        }
        for (int what : new int[] {-1, 10, 11, Integer.MIN_VALUE, Integer.MAX_VALUE}) {
            DUE.argument("setting " + what, () -> bank.setting(what));
        }
    }

    private static void numbers() {
        PaintBank bank = Due.with(SETUP);
        int[] prices = {5, 99, 0};
        int[] rooms = {2, 6, 1};
        int[] bodies = {1, 3, 1, 0, 2, 3, 1};
        int[] colors = {0, 1, 0, 0, 2, 1, 0};
        int[] bads = {0, 2, 1, 0, 0, 0, 0};
        for (int i = 0; i < prices.length; i++) {
            DUE.same("changeCost " + i, bank.changeCost(i), prices[i]);
            DUE.same("room " + i, bank.room(i), rooms[i]);
        }
        for (int car = 0; car < bodies.length; car++) {
            DUE.same("body " + car, bank.body(car), bodies[car]);
            DUE.same("colorOf " + car, bank.colorOf(car), colors[car]);
            DUE.same("bad " + car, bank.bad(car), bads[car]);
        }
    }

    private static void jobsAndFailures() {
        PaintBank bank = Due.with("color a change 1;color b change 2;lane 3;rework 2 delay 0;"
                + "car a body 0 bad 2;car b body 0;car a body 0;");
        bank.swap();
        DUE.same("colorOf 1 is the present job", bank.colorOf(1), 0);
        DUE.same("colorOf 2 is the present job", bank.colorOf(2), 1);
        bank.enter(0);
        bank.leave(0);
        DUE.same("bad is what is still to come", bank.bad(0), 1);
        bank.back(0);
        bank.leave(0);
        DUE.same("bad at last", bank.bad(0), 0);
    }

    private static void kinds() {
        PaintBank bank = Due.with(SETUP);
        DUE.same("kinds", bank.kinds(), 4);
        DUE.same("commonest", bank.commonest(), 3);
        PaintBank none = Due.with("color a change 1;lane 2;");
        DUE.same("kinds without cars", none.kinds(), 0);
        DUE.same("commonest without cars", none.commonest(), 0);
        PaintBank one = Due.with("color a change 1;car a body 0;car a body 0;");
        DUE.same("kinds of equal cars", one.kinds(), 1);
        DUE.same("commonest of equal cars", one.commonest(), 2);
        PaintBank all = Due.with("color a change 1;color b change 1;car a body 0;car a body 1;"
                + "car b body 0;car b body 1;");
        DUE.same("kinds of different cars", all.kinds(), 4);
        DUE.same("commonest of different cars", all.commonest(), 1);
        PaintBank out = Due.with("color a change 1;color b change 1;lane 3;car a body 0;car b body 0;"
                + "car a body 0;");
        Due.play(out, "step 6;");
        DUE.same("kinds of cars that are out", out.kinds(), 2);
        DUE.same("commonest of them", out.commonest(), 2);
    }

    private static void wrongNumbers() {
        PaintBank bank = Due.with(SETUP);
        for (int i : new int[] {-1, 3, 4, Integer.MIN_VALUE, Integer.MAX_VALUE}) {
            DUE.outside("changeCost " + i, () -> bank.changeCost(i));
            DUE.outside("room " + i, () -> bank.room(i));
        }
        for (int i : new int[] {-1, 7, 11, 12, 13, Integer.MIN_VALUE, Integer.MAX_VALUE}) {
            DUE.outside("body " + i, () -> bank.body(i));
            DUE.outside("colorOf " + i, () -> bank.colorOf(i));
            DUE.outside("bad " + i, () -> bank.bad(i));
        }
    }
}
