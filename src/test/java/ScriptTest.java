/** Promise 5 and section 6: scripts, their errors, and where they end. */
public final class ScriptTest {
    private static final Due DUE = new Due();
    private static final String SETUP = "color a change 5;color b change 7;lane 2;lane 3;"
            + "car a body 0;car b body 0;car a body 0;car a body 0 bad 1;car b body 0;rework 1 delay 2;";

    public static void main(String[] args) {
        counting();
        ending();
        stepsAndWaits();
        unloading();
        swapping();
        repeating();
        limits();
        errors();
        nothingOnError();
        undoing();
        DUE.end();
    }

    private static void counting() {
        PaintBank bank = Due.with(SETUP);
        DUE.same("no command", Due.play(bank, ""), 0);
        DUE.same("blanks", Due.play(bank, " \n "), 0);
        DUE.same("three", Due.play(bank, "enter 0;enter 1;leave 0;"), 3);
        DUE.same("where 0", bank.where(0), 3);
        DUE.same("where 1", bank.where(1), 1);
        DUE.same("without blanks", Due.play(bank, "enter0;wait2;leave01;"), 3);
        DUE.same("time", bank.time(), 4);
        DUE.same("a script's buffer is gone", Due.play(bank, ""), 0);
        DUE.same("no code", bank.errorCode(), 0);
        DUE.same("no position", bank.errorPosition(), -1);
    }

    private static void ending() {
        PaintBank bank = Due.with(SETUP);
        DUE.same("a lane that is full", Due.play(bank, "enter 0;enter 0;enter 0;enter 1;"), 2);
        DUE.same("what was done stays", bank.laneLength(0), 2);
        DUE.same("what comes behind is not done", bank.laneLength(1), 0);
        DUE.same("a lane that does not exist", Due.play(bank, "wait 1;enter 2;wait 1;"), 1);
        DUE.same("time then", bank.time(), 1);
        DUE.same("leave a lane that does not exist", Due.play(bank, "wait 1;leave 3;wait 1;"), 1);
        DUE.same("back into one", Due.play(bank, "wait 1;back 2;wait 1;"), 1);
        DUE.same("leave an empty lane", Due.play(bank, "wait 1;leave 1;wait 1;"), 1);
        DUE.same("back without a car", Due.play(bank, "wait 1;back 1;wait 1;"), 1);
        DUE.same("time at last", bank.time(), 5);

        PaintBank bad = Due.with("color a change 5;lane 2;lane 2;rework 1 delay 2;car a body 0 bad 1;"
                + "car a body 0;");
        DUE.same("a leave that fails goes on", Due.play(bad, "enter 0;leave 0;wait 1;back 1;"), 3);
        DUE.same("not ready", bad.where(0), 2);
        DUE.same("back when it is", Due.play(bad, "wait 1;back 1;leave 1;"), 3);
        DUE.same("out", bad.out(0), 0);
    }

    private static void stepsAndWaits() {
        PaintBank bank = Due.with("color a change 5;lane 2;car a body 0;car a body 0;");
        DUE.same("steps", Due.play(bank, "step 3;"), 1);
        DUE.same("two entered, one left", bank.outCount(), 1);
        DUE.same("more steps than can be made", Due.play(bank, "step 2;wait 1;"), 0);
        DUE.same("one of them was made", bank.outCount(), 2);
        DUE.same("the wait behind it was not", bank.time(), 2);
        DUE.same("no step", Due.play(bank, "step 1;wait 1;"), 0);
        DUE.same("waits", Due.play(bank, "wait 99;wait 1;"), 2);
        DUE.same("time", bank.time(), 102);
    }

    private static void unloading() {
        PaintBank bank = Due.with(SETUP);
        DUE.same("unload without a car", Due.play(bank, "unload;wait 1;"), 2);
        DUE.same("unload of some", Due.play(bank, "enter 0;enter 1;enter 0;unload;wait 1;"), 5);
        DUE.same("out by cost", bank.out(0) * 100 + bank.out(1) * 10 + bank.out(2), 102);
        DUE.same("a painting that fails", Due.play(bank, "enter 0;enter 1;unload;wait 1;"), 2);
        DUE.same("it did leave", bank.where(3), 2);
        DUE.same("no wait behind it", bank.time(), 6);
        DUE.same("car 4 stays in its lane", bank.where(4), 1);

        PaintBank last = Due.with("color a change 5;lane 2;car a body 0 bad 1;");
        DUE.same("the last car fails", Due.play(last, "enter 0;unload;wait 1;"), 1);
        DUE.same("and is in the rework lane", last.inRework(0), 0);
        PaintBank none = Due.with("color a change 5;lane 2;rework 0 delay 0;car a body 0 bad 1;");
        DUE.same("a car that cannot leave", Due.play(none, "enter 0;unload;wait 1;"), 1);
        DUE.same("it stays", none.laneLength(0), 1);
    }

    private static void swapping() {
        PaintBank bank = Due.with("color a change 1;color b change 2;lane 3;car b body 0;car a body 0;");
        DUE.same("swap of two", Due.play(bank, "swap;wait 1;"), 2);
        DUE.same("colorOf 0", bank.colorOf(0), 0);
        DUE.same("swap by which no color changes", Due.play(bank, "swap;swap;wait 1;"), 3);
        DUE.same("swap without a car", Due.play(new PaintBank(), "swap;wait 1;"), 2);
    }

    private static void repeating() {
        PaintBank bank = Due.with(SETUP);
        DUE.same("repeat is not counted", Due.play(bank, "repeat 3 (wait 2;);"), 3);
        DUE.same("time", bank.time(), 6);
        DUE.same("repeat in repeat", Due.play(bank, "repeat 2 (wait 1;repeat 3 (wait 1;););"), 8);
        DUE.same("time then", bank.time(), 14);
        DUE.same("repeat nothing", Due.play(bank, "repeat 20 ();"), 0);
        DUE.same("repeat nothing in repeat", Due.play(bank, "repeat 20 (repeat 20 ();wait 1;);"), 20);
        DUE.same("two in one", Due.play(bank, "repeat 2(repeat 2(wait 1;);repeat 3(wait 1;););wait 1;"), 11);
        DUE.same("time then", bank.time(), 45);
        DUE.same("a repeat ends with the script", Due.play(bank, "repeat 4 (enter 0;wait 1;);wait 9;"), 4);
        DUE.same("time at last", bank.time(), 47);
        DUE.same("repeat once", Due.play(bank, "repeat 1 (wait 1;);"), 1);
    }

    private static void limits() {
        PaintBank bank = Due.with("lane 1;");
        DUE.same("100 commands", Due.play(bank, "repeat 20 (repeat 5 (wait 1;););"), 100);
        DUE.same("100 of 101", Due.play(bank, "repeat 20 (repeat 5 (wait 1;););wait 1;"), 100);
        DUE.same("100 of 400", Due.play(bank, "repeat 20 (repeat 20 (wait 1;););wait 99;"), 100);
        DUE.same("time", bank.time(), 300);
        DUE.same("100 of 120", Due.play(bank, "repeat 20(wait 1;wait 1;wait 1;wait 1;wait 1;wait 1;);"), 100);
        DUE.same("40 commands", Due.play(bank, many("wait 1;", 40)), 40);
        DUE.same("100 steps by one", Due.play(Due.with("color a change 1;lane 1;rework 1 delay 9;"
                + "car a body 0 bad 1;car a body 0 bad 1;"), "step 99;"), 1);
    }

    private static String many(String text, int n) {
        StringBuilder all = new StringBuilder();
        for (int i = 0; i < n; i++) {
            all.append(text);
        }
        return all.toString();
    }

    private static void wrong(String script, int code, int position) {
        PaintBank bank = Due.with(SETUP);
        Due.type(bank, script);
        DUE.argument("runScript of " + script, () -> bank.runScript());
        DUE.same("code of " + script, bank.errorCode(), code);
        DUE.same("position of " + script, bank.errorPosition(), position);
        DUE.same("buffer behind " + script, bank.feed(0, 0, 0, 0, 0), 20);
        DUE.same("time behind " + script, bank.time(), 0);
        DUE.same("undo behind " + script, bank.undo(), -1);
    }

    private static void errors() {
        wrong("wait", 1, 4);
        wrong("wait 1", 1, 6);
        wrong("wait 1;wait", 1, 11);
        wrong("wait x;", 1, 5);
        wrong("wait 1;wait 1:", 1, 13);
        wrong("waits 1;", 1, 0);
        wrong("lane 1;", 1, 0);
        wrong("a;", 1, 0);
        wrong(";", 1, 0);
        wrong("7;", 1, 0);
        wrong("swap 1;", 1, 5);
        wrong("unload 1;", 1, 7);
        wrong("swap;;", 1, 5);
        wrong("enter;", 1, 5);
        wrong("enter 0001;", 1, 6);
        wrong("enter 1 1;", 1, 8);
        wrong("enter 4;", 2, 6);
        wrong("leave 4;", 2, 6);
        wrong("back 4;", 2, 5);
        wrong("back 999;", 2, 5);
        wrong("wait 0;", 2, 5);
        wrong("wait 100;", 2, 5);
        wrong("step 0;", 2, 5);
        wrong("step 100;", 2, 5);
        wrong("wait 1;step 100", 2, 12);
        wrong("repeat 0 (wait 1;);", 2, 7);
        wrong("repeat 21 (wait 1;);", 2, 7);
        wrong("repeat (wait 1;);", 1, 7);
        wrong("repeat 2 wait 1;", 1, 9);
        wrong("repeat 2;", 1, 8);
        wrong("repeat 2 (wait 1);", 1, 16);
        wrong("repeat 2 (wait 1;)", 1, 18);
        wrong("repeat 2 (wait 1;) wait 1;", 1, 19);
        wrong("repeat 2 (wait 1;", 1, 17);
        wrong("repeat 2 (wait 1;;", 1, 17);
        wrong("repeat 2 (", 1, 10);
        wrong("repeat 2 ((wait 1;););", 1, 10);
        wrong("(wait 1;);", 1, 0);
        wrong(")", 1, 0);
        wrong(");", 1, 0);
        wrong("repeat 2 (wait 1;););", 1, 19);
        wrong("repeat 2 (repeat 2 (repeat 2 (wait 1;););););", 3, 20);
        wrong("repeat 2 (repeat 2 (repeat", 3, 20);
        wrong("repeat 2 (repeat 2 ();repeat 2 (wait 1;repeat 2 ();););", 3, 39);
        wrong(many("swap;", 40) + "swap;", 5, 200);
        wrong(many("swap;", 40) + "repeat", 5, 200);
        wrong(many("swap;", 40) + " wait 0;", 5, 201);
        wrong(many("swap;", 40) + "swat;", 1, 200);
        wrong(many("swap;", 40) + ")", 1, 200);
        wrong("repeat 2 (" + many("swap;", 39) + "swap;);", 5, 205);
        wrong("repeat 2 (repeat 2 (" + many("swap;", 38) + "repeat 2 (););););", 3, 210);
        wrong("repeat 2 (repeat 2 (" + many("swap;", 38) + "swap;););", 5, 210);
        PaintBank bank = new PaintBank();
        DUE.same("repeats side by side", Due.play(bank, many("repeat 2(repeat 2(););", 20)), 0);
        DUE.same("39 in one", Due.play(bank, "repeat 1 (" + many("swap;", 39) + ");"), 39);
        wrong(many("repeat 2(repeat 2(););", 20) + "swap;", 5, 440);
    }

    private static void nothingOnError() {
        PaintBank bank = Due.with(SETUP);
        Due.type(bank, "wait 1;enter 0;leave 0;wait 1000;");
        DUE.argument("nothing runs before an error", () -> bank.runScript());
        DUE.same("time", bank.time(), 0);
        DUE.same("waiting", bank.waiting(), 5);
        DUE.same("code of a long run of digits", bank.errorCode(), 1);
        DUE.same("position", bank.errorPosition(), 28);
    }

    private static void undoing() {
        PaintBank bank = Due.with(SETUP);
        Due.play(bank, "enter 0;enter 1;leave 0;");
        DUE.same("a script is undone as one", bank.undo(), 0);
        DUE.same("waiting", bank.waiting(), 5);
        DUE.same("time", bank.time(), 0);
        Due.play(bank, "leave 0;wait 1;");
        DUE.same("a script that did nothing", bank.undo(), -1);
        Due.play(bank, "");
        DUE.same("an empty script", bank.undo(), -1);
        Due.play(bank, "repeat 3 ();");
        DUE.same("a script without a true command", bank.undo(), -1);
        // Done and counted, though nothing changed.
        Due.play(bank, "unload;");
        DUE.same("a script with an unload of no car", bank.undo(), 0);
        PaintBank part = Due.with("color a change 5;lane 2;car a body 0;car a body 0;");
        DUE.same("a part of a step", Due.play(part, "step 99;"), 0);
        DUE.same("out", part.outCount(), 2);
        DUE.same("can be undone, though not counted", part.undo(), 0);
        DUE.same("out then", part.outCount(), 0);
        PaintBank fails = Due.with("color a change 5;lane 2;car a body 0 bad 1;");
        fails.enter(0);
        DUE.same("an unload that fails", Due.play(fails, "unload;"), 0);
        DUE.same("rework", fails.inRework(0), 0);
        DUE.same("can be undone, too", fails.undo(), 1);
        DUE.same("rework then", fails.inRework(0), -1);
    }
}
