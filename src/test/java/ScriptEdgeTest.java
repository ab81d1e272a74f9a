/** The edges of section 6 and of promise 5: the grammar of scripts, and where they end. */
public final class ScriptEdgeTest {
    private static final Due DUE = new Due();
    private static final String COLORS = "color a change 3;color b change 4;";
    private static final String CAR = "car a body 0;";
    private static final String BAD = "car a body 0 bad 1;";
    private static final String LANES = "lane 6;lane 6;lane 6;lane 6;";

    public static void main(String[] args) {
        noCommand();
        tokens();
        grammar();
        endsTooEarly();
        brackets();
        laneRange();
        waitRange();
        stepRange();
        repeatRange();
        nesting();
        fortyCommands();
        lowestCode();
        firstError();
        whichLane();
        lanesThatDoNotExist();
        waitTimes();
        waitInPart();
        stepTimes();
        stepInPart();
        unloadWithoutACar();
        unloadNotAllowed();
        unloadInPart();
        unloadThatFails();
        swapWithoutAChange();
        endsAtACommand();
        repeatTimes();
        repeatNotCounted();
        hundredCommands();
        hundredOfMore();
        scriptsAndUndo();
        DUE.end();
    }

    private static PaintBank busy() {
        return Due.with(COLORS + LANES + "rework 1 delay 2;" + CAR + "car b body 0;" + BAD + CAR.repeat(5));
    }

    private static void wrong(String script, int code, int position) {
        PaintBank bank = new PaintBank();
        Due.type(bank, script);
        DUE.argument("runScript of " + script, () -> bank.runScript());
        DUE.same("code of " + script, bank.errorCode(), code);
        DUE.same("position of " + script, bank.errorPosition(), position);
        DUE.same("time behind " + script, bank.time(), 0);
    }

    private static void done(String script, PaintBank bank, int want) {
        Due.type(bank, script);
        int got = PaintBank.NONE;
        try {
            got = bank.runScript();
        } catch (IllegalArgumentException e) {
            DUE.same("code of " + script, bank.errorCode(), 0);
        }
        DUE.same(script, got, want);
    }

    // ---- the grammar

    private static void noCommand() {
        DUE.sentence("script = { command \";\" }");
        done("", new PaintBank(), 0);
        done(" \n", new PaintBank(), 0);
        done(" ".repeat(800), new PaintBank(), 0);
        done("wait 1;", new PaintBank(), 1);
        done("wait 1;wait 1;", new PaintBank(), 2);
        done("repeat 1 ();", new PaintBank(), 0);
        done("repeat 20 ( repeat 20 ( ) ; ) ;", new PaintBank(), 0);
    }

    private static void tokens() {
        DUE.sentence("The tokens are those of a setup.");
        done("wait1;wait02;wait003;", new PaintBank(), 3);
        done("\nwait\n1\n;\n", new PaintBank(), 1);
        done("repeat2(wait1;);", new PaintBank(), 2);
        wrong("wait 0001;", 1, 5);
        wrong("wait\t1;", 1, 4);
        wrong("waitwaitw 1;", 1, 0);
        wrong("wait 1;\0", 1, 7);
        wrong("Wait 1;", 1, 0);
        wrong("wait 1\u00e9;", 1, 6);
    }

    private static void grammar() {
        DUE.sentence("1 and 2 as above");
        String[] forms = {"enter N ;", "leave N ;", "back N ;", "wait N ;", "step N ;", "unload ;", "swap ;",
            "repeat N ( wait N ; ) ;"};
        String[] strangers = {";", "(", ")", "1", "mint", "lane", "color", "enter", "unload", "repeat", "!",
            "0001", "waitwaitw"};
        for (String form : forms) {
            String[] parts = form.split(" ");
            for (int k = 0; k < parts.length; k++) {
                StringBuilder before = new StringBuilder("wait 1;");
                for (int i = 0; i < k; i++) {
                    before.append(sample(parts[i])).append(' ');
                }
                for (String stranger : strangers) {
                    boolean command = isCommand(stranger) || stranger.equals(")") && k > 0;
                    boolean start = k == 0 || parts[k - 1].equals("(") || parts[k].equals(")");
                    if (!stranger.equals(sample(parts[k])) && !(start && command)) {
                        wrong(before + stranger + " 1;", 1, before.length());
                    }
                }
            }
        }
    }

    private static String sample(String part) {
        return part.equals("N") ? "1" : part;
    }

    private static boolean isCommand(String word) {
        return word.equals("enter") || word.equals("unload") || word.equals("repeat");
    }

    private static void endsTooEarly() {
        DUE.sentence("or the length of the text if it ends too early");
        String[] texts = {"enter 1", "leave 1", "back 1", "wait 1", "step 1", "unload", "swap",
            "repeat 1 ( )", "repeat 1 ( wait 1 ; repeat 1 ( swap ; ) ; )"};
        for (String text : texts) {
            StringBuilder cut = new StringBuilder("wait 1;");
            for (String part : text.split(" ")) {
                cut.append(part);
                wrong(cut.toString(), 1, cut.length());
                cut.append(' ');
                wrong(cut.toString(), 1, cut.length());
            }
        }
    }

    private static void brackets() {
        DUE.sentence("\"repeat\" N \"(\" script \")\"");
        wrong(")", 1, 0);
        wrong("wait 1;)", 1, 7);
        wrong("repeat 1 ());", 1, 11);
        wrong("repeat 1 ();)", 1, 12);
        wrong("repeat 1 (););", 1, 12);
        wrong("repeat 1 (repeat 1 ();", 1, 22);
        wrong("repeat 1 (repeat 1 ());", 1, 21);
        wrong("repeat 1 (wait 1);", 1, 16);
        wrong("repeat 1 ((", 1, 10);
        wrong("repeat 1 (;);", 1, 10);
        wrong("(wait 1;);", 1, 0);
        PaintBank open = new PaintBank();
        for (String script : new String[] {"repeat 1 (", "repeat 1 (repeat 1 (wait 1;"}) {
            Due.type(open, script);
            DUE.argument(script, () -> open.runScript());
            done("repeat 2 (repeat 2 (wait 1;););", open, 4);
            Due.type(open, "wait 1;);");
            DUE.argument("a bracket behind it", () -> open.runScript());
            DUE.same("its position", open.errorPosition(), 7);
        }
        done("repeat 1 (repeat 1 (););", new PaintBank(), 0);
        done("repeat 1 (repeat 1 ();repeat 1 (););repeat 1 ();", new PaintBank(), 0);
    }

    // ---- ranges

    private static void range(String before, String behind, int least, int greatest) {
        if (least > 0) {
            wrong(before + (least - 1) + behind, 2, before.length());
        }
        wrong(before + (greatest + 1) + behind, 2, before.length());
        wrong(before + 999 + behind, 2, before.length());
        wrong(before + 1000 + behind, 1, before.length());
    }

    private static void laneRange() {
        DUE.sentence("\"enter\", \"leave\" and \"back\" do this with a lane (0 to 3)");
        for (String word : new String[] {"enter ", "leave ", "back "}) {
            range(word, ";", 0, 3);
            for (int lane = 0; lane <= 3; lane++) {
                // Without a lane none can be done, but the text has no error.
                done(word + lane + ";", new PaintBank(), 0);
            }
        }
    }

    private static void waitRange() {
        DUE.sentence("\"wait\" waits N times (1 to 99)");
        range("wait ", ";", 1, 99);
        for (int times = 1; times <= 99; times++) {
            PaintBank bank = new PaintBank();
            done("wait " + times + ";", bank, 1);
            DUE.same("time", bank.time(), times);
        }
    }

    private static void stepRange() {
        DUE.sentence("\"step\" makes N steps by the rule (1 to 99)");
        range("step ", ";", 1, 99);
        PaintBank bank = Due.with(COLORS + "lane 1;rework 1 delay 0;" + BAD + BAD);
        Due.play(bank, "enter 0;leave 0;enter 0;");
        for (int steps : new int[] {1, 2, 98, 99}) {
            int before = bank.time();
            done("step " + steps + ";", bank, 1);
            DUE.same("waits of step " + steps, bank.time() - before, steps);
        }
    }

    private static void repeatRange() {
        DUE.sentence("\"repeat\" does the commands in brackets N times (1 to 20).");
        range("repeat ", " ();", 1, 20);
        for (int times = 1; times <= 20; times++) {
            PaintBank bank = new PaintBank();
            done("repeat " + times + " (wait 2;);", bank, times);
            DUE.same("time", bank.time(), 2 * times);
        }
    }

    private static void nesting() {
        DUE.sentence("3: a \"repeat\" within two others");
        done("repeat 1 (repeat 1 (wait 1;););", new PaintBank(), 1);
        done("repeat 1 (repeat 1 (wait 1;);repeat 1 (wait 1;););repeat 1 (repeat 1 (wait 1;););",
                new PaintBank(), 3);
        wrong("repeat 1 (repeat 1 (repeat 1 (););););", 3, 20);
        wrong("repeat 1 (repeat 1 (repeat", 3, 20);
        wrong("repeat 1 (repeat 1 (wait 1;repeat 0", 3, 27);
        wrong("repeat 1 (repeat 1 ();repeat 1 (swap;repeat 1 (););););", 3, 37);
        wrong("repeat 1 (repeat 1 ();repeat 1 (););repeat 1 (repeat 1 (repeat 1 (););););", 3, 56);
    }

    private static void fortyCommands() {
        DUE.sentence("5: the first word of a 41st command (\"repeat\" counts as one, too).");
        done("wait 1;".repeat(40), new PaintBank(), 40);
        wrong("wait 1;".repeat(41), 5, 280);
        wrong("wait 1;".repeat(40) + "repeat 1 ();", 5, 280);
        wrong("wait 1;".repeat(40) + " \nwait 0", 5, 282);
        done("wait 1;".repeat(39) + "repeat 1 ();", new PaintBank(), 39);
        wrong("wait 1;".repeat(39) + "repeat 1 (wait 1;);", 5, 283);
        done("repeat 1 (" + "wait 1;".repeat(39) + ");", new PaintBank(), 39);
        wrong("repeat 1 (" + "wait 1;".repeat(40) + ");", 5, 283);
        done("repeat 1 (" + "wait 1;".repeat(38) + ");wait 1;", new PaintBank(), 39);
        wrong("repeat 1 (" + "wait 1;".repeat(39) + ");wait 1;", 5, 285);
        done("repeat 1 ();".repeat(40), new PaintBank(), 0);
        wrong("repeat 1 ();".repeat(41), 5, 480);
        wrong("repeat 1 (repeat 1 (" + "swap;".repeat(39), 5, 20 + 5 * 38);
        done("repeat 2 (wait 1;);".repeat(20), new PaintBank(), 40);
        done("repeat 1 ();".repeat(38) + "repeat 1 (wait 1;);", new PaintBank(), 1);
        done("repeat 1 (repeat 1 ();".repeat(1) + "repeat 1 ();".repeat(37) + "wait 1;);", new PaintBank(), 1);
        // Commands are counted as they stand, not as they are done.
        done("repeat 20 (" + "wait 1;".repeat(4) + ");" + "wait 1;".repeat(35), new PaintBank(), 100);
    }

    private static void lowestCode() {
        DUE.sentence("if several codes apply at one token, the lowest one");
        wrong("repeat 1 (repeat 1 (" + "swap;".repeat(38) + "repeat 1 ();", 3, 210);
        wrong("repeat 1 (repeat 1 (" + "swap;".repeat(38) + "swap;", 5, 210);
        wrong("repeat 1 (repeat 1 (" + "swap;".repeat(37) + "repeat 1 ();", 3, 205);
        wrong("swap;".repeat(40) + "lane 1;", 1, 200);
        wrong("swap;".repeat(40) + ";", 1, 200);
        wrong("swap;".repeat(40) + "swapswaps", 1, 200);
        wrong("wait 1000;", 1, 5);
    }

    private static void firstError() {
        DUE.sentence("Tokens are checked from left to right and the first error is reported");
        wrong("wait 100;!", 2, 5);
        wrong("wait 100!", 2, 5);
        wrong("wait 100", 2, 5);
        wrong("enter 4;repeat 0 ();", 2, 6);
        wrong("repeat 21 (repeat 1 (repeat 1 (););););", 2, 7);
        wrong("repeat 1 (repeat 1 (repeat 21 (););););", 3, 20);
        wrong("! wait 100;", 1, 0);
    }

    // ---- what is done

    private static void whichLane() {
        DUE.sentence("\"enter\", \"leave\" and \"back\" do this with a lane (0 to 3)");
        PaintBank bank = Due.with(COLORS + LANES + "rework 3 delay 0;" + CAR.repeat(4) + BAD.repeat(3));
        for (int lane = 0; lane <= 3; lane++) {
            done("enter " + lane + ";", bank, 1);
            DUE.same("lane " + lane, bank.inLane(lane, 0), lane);
        }
        for (int lane = 3; lane >= 0; lane--) {
            done("leave " + lane + ";", bank, 1);
            DUE.same("out", bank.out(3 - lane), lane);
        }
        for (int i = 0; i < 3; i++) {
            done("enter 0;leave 0;back " + (i + 1) + ";", bank, 3);
            DUE.same("back in lane " + (i + 1), bank.inLane(i + 1, 0), 4 + i);
        }
    }

    private static void lanesThatDoNotExist() {
        DUE.sentence("A script ends at a command that cannot be done [..]: a lane that does not exist");
        for (int lanes = 0; lanes <= 3; lanes++) {
            for (String word : new String[] {"enter ", "leave ", "back "}) {
                PaintBank bank = Due.with(COLORS + "lane 6;".repeat(lanes) + CAR);
                done("wait 1;" + word + lanes + ";wait 1;", bank, 1);
                DUE.same("time", bank.time(), 1);
                DUE.same("no exception, no error", bank.errorCode(), 0);
                done("wait 1;" + word + "3;wait 1;", bank, 1);
                // Nor does a lane of an earlier setup exist.
                PaintBank later = Due.with(COLORS + LANES + CAR);
                Due.type(later, COLORS + "lane 6;".repeat(lanes) + CAR);
                later.readSetup();
                done("wait 1;" + word + lanes + ";wait 1;", later, 1);
                DUE.same("waiting", later.waiting(), 1);
            }
        }
    }

    private static void waitTimes() {
        DUE.sentence("Returns the number of commands that were done, \"repeat\" not counted.");
        PaintBank bank = new PaintBank();
        done("wait 1;wait 99;wait 50;", bank, 3);
        DUE.same("time", bank.time(), 150);
    }

    private static void waitInPart() {
        DUE.sentence("or of which a part cannot be done (what was done before stays) [..] Such a command is not "
                + "counted.");
        PaintBank bank = new PaintBank();
        Due.play(bank, "repeat 20 (repeat 5 (wait 99;););");
        DUE.same("time", bank.time(), 9900);
        done("wait 98;wait 1;", bank, 2);
        DUE.same("time at the end", bank.time(), 9999);
        done("wait 1;", bank, 0);
        bank.undo();
        done("wait 99;", bank, 1);
        bank.undo();
        done("wait 50;wait 50;wait 1;", bank, 1);
        DUE.same("a part of the second wait stays", bank.time(), 9999);
        DUE.same("undo of it", bank.undo(), 1);
        done("wait 98;", bank, 1);
        done("wait 2;wait 1;", bank, 0);
        DUE.same("a part of the only wait stays", bank.time(), 9999);
        DUE.same("undo of it", bank.undo(), 2);
        DUE.same("time then", bank.time(), 9998);
    }

    private static void stepTimes() {
        DUE.sentence("\"step\" makes N steps by the rule");
        PaintBank bank = Due.with(COLORS + "lane 1;" + CAR + CAR);
        done("step 4;wait 1;", bank, 2);
        DUE.same("outCount", bank.outCount(), 2);
        PaintBank parts = Due.with(COLORS + "lane 1;" + CAR + CAR);
        done("step 1;step 1;step 2;step 1;wait 1;", parts, 3);
    }

    private static void stepInPart() {
        DUE.sentence("a step when nothing can be done");
        PaintBank bank = Due.with(COLORS + "lane 1;" + CAR + CAR);
        done("step 5;wait 1;", bank, 0);
        DUE.same("four steps stay", bank.outCount(), 2);
        DUE.same("time", bank.time(), 2);
        done("step 1;wait 1;", bank, 0);
        done("step 1;", new PaintBank(), 0);
    }

    private static void unloadWithoutACar() {
        DUE.sentence("(An \"unload\" without a car in the lanes, [..] are done and counted.)");
        done("unload;wait 1;", new PaintBank(), 2);
        PaintBank bank = Due.with(COLORS + LANES + CAR + CAR);
        done("unload;enter 0;unload;unload;enter 3;unload;", bank, 6);
        DUE.same("outCount", bank.outCount(), 2);
        DUE.same("time", bank.time(), 2);
        done("unload;", bank, 1);
    }

    private static void unloadNotAllowed() {
        DUE.sentence("no allowed unloading");
        // Car 1, in the lane, would go to place 0, one ahead.
        String setup = COLORS + LANES + "rework 1 delay 9;" + BAD + CAR;
        PaintBank none = Due.with(setup + "window 0 11;");
        done("enter 0;leave 0;enter 0;unload;wait 1;", none, 3);
        DUE.same("none has left", none.outCount(), 0);
        DUE.same("time", none.time(), 1);
        PaintBank one = Due.with(setup + "window 1 11;");
        done("enter 0;leave 0;enter 0;unload;wait 1;", one, 5);
        DUE.same("one has left", one.outCount(), 1);
    }

    private static void unloadInPart() {
        DUE.sentence("a car of it that cannot leave");
        PaintBank bank = Due.with(COLORS + LANES + "rework 0 delay 0;" + CAR + BAD + CAR);
        done("enter 0;enter 0;enter 0;unload;wait 1;", bank, 3);
        DUE.same("what was done before stays", bank.outCount(), 1);
        DUE.same("the others stay", bank.laneLength(0), 2);
        done("unload;wait 1;", bank, 0);
        DUE.same("time", bank.time(), 1);
        PaintBank late = Due.with(COLORS + LANES + CAR + CAR);
        Due.play(late, "repeat 20 (repeat 5 (wait 99;););");
        Due.play(late, "wait 98;enter 0;enter 0;");
        DUE.same("time before the last one", late.time(), 9998);
        done("unload;", late, 0);
        DUE.same("one has left at 9998", late.outCount(), 1);
        DUE.same("time at the end", late.time(), 9999);
    }

    private static void unloadThatFails() {
        DUE.sentence("or whose painting fails (it does leave then).");
        PaintBank first = Due.with(COLORS + LANES + BAD + CAR);
        done("enter 0;enter 0;unload;wait 1;", first, 2);
        DUE.same("it did leave", first.inRework(0), 0);
        DUE.same("the next one did not", first.where(1), 1);
        PaintBank last = Due.with(COLORS + LANES + CAR + BAD);
        done("enter 0;enter 0;unload;wait 1;", last, 2);
        DUE.same("the last one did leave, too", last.inRework(0), 1);
        DUE.same("the first one is out", last.outCount(), 1);
        DUE.same("time", last.time(), 2);
        done("unload;wait 1;", last, 2);
        // A good unloading before one that fails.
        PaintBank second = Due.with(COLORS + LANES + CAR + BAD);
        done("enter 0;unload;enter 0;unload;wait 1;", second, 3);
        DUE.same("time of two paintings", second.time(), 2);
        PaintBank leave = Due.with(COLORS + LANES + BAD);
        done("enter 0;leave 0;wait 1;", leave, 3);
    }

    private static void swapWithoutAChange() {
        DUE.sentence("and a \"swap\" by which no color changes, are done and counted.)");
        done("swap;wait 1;", new PaintBank(), 2);
        PaintBank bank = Due.with(COLORS + LANES + "car b body 0;" + CAR);
        done("swap;swap;enter 0;swap;enter 0;swap;", bank, 6);
        DUE.same("colorOf 0", bank.colorOf(0), 0);
        DUE.same("colorOf 1", bank.colorOf(1), 1);
        done("swap;", Due.with(COLORS + CAR), 1);
    }

    private static void endsAtACommand() {
        DUE.sentence("A script ends at a command that cannot be done");
        String[] scripts = {"enter 3;", "leave 2;", "back 2;", "step 1;", "leave 0;"};
        for (String script : scripts) {
            PaintBank bank = Due.with(COLORS + "lane 1;lane 1;lane 1;rework 1 delay 9;window 0 0;" + CAR
                    + BAD + BAD);
            Due.play(bank, "enter 0;leave 0;enter 1;leave 1;enter 0;enter 1;");
            boolean step = script.equals("step 1;");
            done("wait 1;" + script + "wait 1;", bank, step ? 3 : 1);
            DUE.same("time behind " + script, bank.time(), step ? 5 : 3);
            if (!step) {
                done("repeat 20 (repeat 20 (wait 1;" + script + "wait 1;););wait 1;", bank, 1);
                DUE.same("in repeats, too", bank.time(), 4);
                done(script, bank, 0);
            }
        }
        PaintBank full = Due.with(COLORS + "lane 2;" + CAR.repeat(3));
        done("enter 0;enter 0;enter 0;wait 1;", full, 2);
        done("repeat 3 (enter 0;);wait 1;", full, 0);
    }

    private static void repeatTimes() {
        DUE.sentence("\"repeat\" does the commands in brackets N times");
        PaintBank bank = new PaintBank();
        done("repeat 2 (wait 10;repeat 3 (wait 2;);wait 20;);wait 1;", bank, 11);
        DUE.same("time", bank.time(), 73);
        done("repeat 2 (repeat 3 (wait 1;);repeat 4 (wait 1;););", bank, 14);
        DUE.same("time then", bank.time(), 87);
        done("repeat 1 (repeat 1 (wait 1;););", bank, 1);
        DUE.same("once", bank.time(), 88);
    }

    private static void repeatNotCounted() {
        DUE.sentence("Returns the number of commands that were done, \"repeat\" not counted.");
        done("repeat 20 ();", new PaintBank(), 0);
        done("repeat 20 (repeat 20 (););wait 1;", new PaintBank(), 1);
        done("repeat 20 (wait 1;);repeat 20 ();", new PaintBank(), 20);
        done("repeat 20 (repeat 20 ();wait 1;);", new PaintBank(), 20);
    }

    private static void hundredCommands() {
        DUE.sentence("It also ends early when 100 commands were done.");
        PaintBank bank = new PaintBank();
        done("repeat 20 (repeat 4 (wait 1;););repeat 19 (wait 1;);", bank, 99);
        DUE.same("99", bank.time(), 99);
        done("repeat 20 (repeat 4 (wait 1;););repeat 20 (wait 1;);", bank, 100);
        DUE.same("100", bank.time(), 199);
        done("repeat 20 (repeat 4 (wait 1;););repeat 20 (wait 1;);wait 50;", bank, 100);
        DUE.same("101", bank.time(), 299);
        // The 100th is done, the 101st would end the script anyway.
        done("repeat 20 (repeat 5 (wait 1;););leave 0;", bank, 100);
        done("repeat 20 (repeat 5 (wait 1;););repeat 20 ();", bank, 100);
    }

    private static void hundredOfMore() {
        DUE.sentence("It also ends early when 100 commands were done.");
        PaintBank bank = new PaintBank();
        done("repeat 20 (repeat 20 (wait 1;););", bank, 100);
        DUE.same("100 of 400", bank.time(), 100);
        done("repeat 20 (repeat 20 (wait 1;wait 2;wait 3;););", bank, 100);
        DUE.same("33 threes and one", bank.time(), 100 + 33 * 6 + 1);
        done("repeat 20 (wait 1;wait 1;wait 1;wait 1;wait 1;swap;);wait 9;", bank, 100);
        DUE.same("swaps are counted, too", bank.time(), 299 + 84);
        done("repeat 3 (" + "wait 1;".repeat(38) + ");", bank, 100);
        DUE.same("a row of 38, not done three times", bank.time(), 383 + 100);
        // Steps and waits within a command are not counted each.
        done("repeat 20 (repeat 5 (wait 99;););", new PaintBank(), 100);
    }

    private static void scriptsAndUndo() {
        DUE.sentence("each runScript() by which something was done can be undone");
        PaintBank bank = busy();
        done("", bank, 0);
        done("leave 0;", bank, 0);
        done("back 0;wait 1;", bank, 0);
        done("repeat 20 ();", bank, 0);
        DUE.none("undo of none", bank.undo());
        done("enter 0;enter 1;leave 1;", bank, 3);
        done("step 99;", bank, 0);
        DUE.same("all are out", bank.outCount(), 8);
        DUE.same("undo of a part", bank.undo(), 1);
        DUE.same("outCount then", bank.outCount(), 1);
        DUE.same("undo of three commands at once", bank.undo(), 0);
        DUE.same("all behind it", Look.through(bank), Look.through(busy()));
    }
}
