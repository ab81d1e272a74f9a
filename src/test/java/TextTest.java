/** Promises 1 to 7: a new object, the buffer, the grammar of a setup and its errors. */
public final class TextTest {
    private static final Due DUE = new Due();

    public static void main(String[] args) {
        newObject();
        feeding();
        truncating();
        tokens();
        grammar();
        numbers();
        names();
        tooMany();
        reading();
        afterAnError();
        longest();
        DUE.end();
    }

    private static void newObject() {
        PaintBank bank = new PaintBank();
        int[] settings = {0, 0, 0, 11, 11, 9, 0, 1, 3, 2};
        for (int what = 0; what < settings.length; what++) {
            DUE.same("new: setting " + what, bank.setting(what), settings[what]);
        }
        DUE.same("new: errorCode", bank.errorCode(), 0);
        DUE.same("new: errorPosition", bank.errorPosition(), -1);
        DUE.same("new: readSetup of an empty buffer", bank.readSetup(), 0);
        DUE.same("new: hose", bank.hose(), -1);
        DUE.same("new: run", bank.run(), 0);
        DUE.same("new: time", bank.time(), 0);
        DUE.same("new: changes", bank.changes(), 0);
        DUE.same("new: purges", bank.purges(), 0);
        DUE.same("new: cost", bank.cost(), 0);
        DUE.same("new: waiting", bank.waiting(), 0);
        DUE.same("new: outCount", bank.outCount(), 0);
        DUE.same("new: logCount", bank.logCount(), 0);
        DUE.same("new: undo", bank.undo(), -1);
        DUE.outside("new: reportByte", () -> bank.reportByte(0));
        DUE.state("new: restore", () -> bank.restore());
    }

    private static void feeding() {
        PaintBank bank = new PaintBank();
        for (int i = 1; i <= 40; i++) {
            DUE.same("feed " + i, bank.feed(0x20202020, 0x0a0a0a0a, 0x20200a0a, 0x20202020, 0x20202020),
                    20 * i);
        }
        DUE.state("feed beyond 800", () -> bank.feed(0, 0, 0, 0, 0));
        DUE.same("800 blanks are a setup", bank.readSetup(), 0);
        DUE.same("the buffer is empty then", bank.feed(0, 0, 0, 0, 0), 20);

        PaintBank order = new PaintBank();
        // "lane" " 3;l" "ane " "4;  " "    "
        order.feed(0x6c616e65, 0x20333b6c, 0x616e6520, 0x343b2020, 0x20202020);
        DUE.same("most significant bytes first", order.readSetup(), 2);
        DUE.same("room 0", order.room(0), 3);
        DUE.same("room 1", order.room(1), 4);

        PaintBank nearly = new PaintBank();
        for (int i = 0; i < 40; i++) {
            nearly.feed(0, 0, 0, 0, 0);
        }
        nearly.truncate(781);
        DUE.state("feed to 801", () -> nearly.feed(1, 2, 3, 4, 5));
        nearly.truncate(780);
        DUE.same("feed to 800", nearly.feed(1, 2, 3, 4, 5), 800);
    }

    private static void truncating() {
        PaintBank bank = new PaintBank();
        DUE.same("truncate nothing to 0", bank.truncate(0), 0);
        DUE.argument("truncate beyond the end", () -> bank.truncate(1));
        DUE.argument("truncate to -1", () -> bank.truncate(-1));
        DUE.argument("truncate to the least", () -> bank.truncate(Integer.MIN_VALUE));
        DUE.argument("truncate to the greatest", () -> bank.truncate(Integer.MAX_VALUE));
        Due.type(bank, "lane 2;lane 3;lane 4");
        DUE.same("truncate to the same", bank.truncate(20), 20);
        DUE.argument("truncate to 21", () -> bank.truncate(21));
        DUE.same("truncate to 13", bank.truncate(13), 13);
        Due.type(bank, "lane 5;");
        DUE.argument("lane 3 has lost its semicolon", () -> bank.readSetup());
        DUE.same("code", bank.errorCode(), 1);
        DUE.same("position", bank.errorPosition(), 13);
        Due.type(bank, "lane 2;lane 3;lane 4");
        bank.truncate(14);
        Due.type(bank, "lane 5;");
        DUE.same("what was cut is gone", bank.readSetup(), 3);
        DUE.same("room 2", bank.room(2), 5);
    }

    /** Reads a setup that has an error. */
    private static void wrong(String setup, int code, int position) {
        PaintBank bank = new PaintBank();
        Due.type(bank, setup);
        DUE.argument("readSetup of " + setup, () -> bank.readSetup());
        DUE.same("code of " + setup, bank.errorCode(), code);
        DUE.same("position of " + setup, bank.errorPosition(), position);
        DUE.same("the buffer behind " + setup, bank.feed(0, 0, 0, 0, 0), 20);
    }

    private static void right(String setup, int statements) {
        PaintBank bank = new PaintBank();
        Due.type(bank, setup);
        DUE.same("statements of " + setup, bank.readSetup(), statements);
        DUE.same("code of " + setup, bank.errorCode(), 0);
        DUE.same("position of " + setup, bank.errorPosition(), -1);
    }

    private static void tokens() {
        right("lane2;lane3;", 2);
        right("\n lane\n2 ;\n", 1);
        right("lane 002;", 1);
        right("color re change 1;car re body1bad1;", 2);
        right("color zzzzzzzz change 1;car zzzzzzzz body 0;", 2);
        wrong("color zzzzzzzzz change 1;", 1, 6);
        wrong("lanelanelane 2;", 1, 0);
        wrong("lane 0002;", 1, 5);
        wrong("lane 9999999999999999;", 1, 5);
        wrong("lane\t2;", 1, 4);
        wrong("lane\r2;", 1, 4);
        wrong("Lane 2;", 1, 0);
        wrong("lane 2:", 1, 6);
        wrong("lane 2/", 1, 6);
        wrong("`lane 2;", 1, 0);
        wrong("{", 1, 0);
        wrong("lane 2;\0", 1, 7);
        wrong("lane 2;\u00e9", 1, 7);
        wrong("lane 2;\u00ff", 1, 7);
        wrong("color a{ change 2;", 1, 7);
        wrong("color a,b change 2;", 1, 7);
    }

    private static void grammar() {
        wrong("lane", 1, 4);
        wrong("lane  \n", 1, 7);
        wrong("lane 2", 1, 6);
        wrong("lane 2 ", 1, 7);
        wrong(";", 1, 0);
        wrong("lane 2;;", 1, 7);
        wrong("lane;", 1, 4);
        wrong("lane x;", 1, 5);
        wrong("lane (2);", 1, 5);
        wrong("lane 2);", 1, 6);
        wrong("lane 2 3;", 1, 7);
        wrong("5;", 1, 0);
        wrong("(", 1, 0);
        wrong("red;", 1, 0);
        wrong("enter 0;", 1, 0);
        wrong("change 3;", 1, 0);
        wrong("color red 3;", 1, 10);
        wrong("color red change red;", 1, 17);
        wrong("color 3 change 3;", 1, 6);
        wrong("color red change 3;car red;", 1, 26);
        wrong("color red change 3;car red body;", 1, 31);
        wrong("color red change 3;car red body 1 bad;", 1, 37);
        wrong("color red change 3;car red body 1 bad 1 bad 1;", 1, 40);
        wrong("color red change 3;car red body 1 body 1;", 1, 34);
        wrong("color red change 3;car red bad 1;", 1, 27);
        wrong("window 3;", 1, 8);
        wrong("window 3 4 5;", 1, 11);
        wrong("batch 3;", 1, 7);
        wrong("batch 3 delay 3;", 1, 8);
        wrong("batch 3 purge;", 1, 13);
        wrong("rework 3 purge 3;", 1, 9);
        wrong("rework 1 delay;", 1, 14);
        wrong("span;", 1, 4);
        wrong("span 2 2;", 1, 7);
    }

    private static void numbers() {
        right("lane 1;lane 6;", 2);
        wrong("lane 0;", 2, 5);
        wrong("lane 7;", 2, 5);
        wrong("lane 999;", 2, 5);
        right("color a change 0;color b change 99;", 2);
        wrong("color a change 100;", 2, 15);
        right("color a change 1;car a body 0;car a body 3;", 3);
        wrong("color a change 1;car a body 4;", 2, 28);
        right("color a change 1;car a body 0 bad 0;car a body 3 bad 2;", 3);
        wrong("color a change 1;car a body 0 bad 3;", 2, 34);
        right("window 0 0;", 1);
        right("window 11 11;", 1);
        wrong("window 12 11;", 2, 7);
        wrong("window 11 12;", 2, 10);
        wrong("window 12 x;", 2, 7);
        right("batch 1 purge 0;", 1);
        right("batch 9 purge 99;", 1);
        wrong("batch 0 purge 1;", 2, 6);
        wrong("batch 10 purge 1;", 2, 6);
        wrong("batch 1 purge 100;", 2, 14);
        right("rework 0 delay 0;", 1);
        right("rework 3 delay 9;", 1);
        wrong("rework 4 delay 9;", 2, 7);
        wrong("rework 3 delay 10;", 2, 15);
        right("span 0;", 1);
        right("span 11;", 1);
        wrong("span 12;", 2, 5);
        wrong("window 1 1;window 12 1;", 3, 11);
        wrong("batch 1 purge 1;lane 2;batch 1 purge 1;", 3, 23);
        wrong("rework 1 delay 1;rework 1 delay 1;", 3, 17);
        wrong("span 1; span", 3, 8);
    }

    private static void names() {
        String[] words = {"color", "change", "lane", "car", "body", "bad", "window", "batch", "purge",
            "rework", "delay", "span", "enter", "leave", "back", "wait", "step", "unload", "swap",
            "repeat"};
        for (String word : words) {
            wrong("color " + word + " change 1;", 1, 6);
            wrong("car " + word + " body 1;", 1, 4);
        }
        right("color setup change 1;color script change 1;color n change 2;color name change 3;", 4);
        right("color colors change 1;color colo change 1;color waits change 1;", 3);
        wrong("color a change 1;color a change 2;", 3, 23);
        wrong("color a change 1;color a", 3, 23);
        wrong("car a body 1;", 4, 4);
        wrong("color a change 1;car b body 1;", 4, 21);
        wrong("car a body 1;color a change 1;", 4, 4);
        wrong("color a change 1;car b", 4, 21);
        wrong("color ab change 1;car a body 1;", 4, 22);
        wrong("color a change 1;car ab body 1;", 4, 21);
        right("color aaaaaaaa change 1;color aaaaaaa change 1;color zaaaaaaa change 1;", 3);
    }

    private static String times(String text, int n) {
        StringBuilder all = new StringBuilder();
        for (int i = 0; i < n; i++) {
            all.append(text);
        }
        return all.toString();
    }

    private static void tooMany() {
        String five = "color a change 1;color b change 1;color c change 1;color d change 1;color e change 1;";
        right(five, 5);
        wrong(five + "color f change 1;", 5, five.length());
        wrong(five + "color 7", 5, five.length());
        wrong(five + "color a change 1;", 5, five.length());
        right(times("lane 1;", 4), 4);
        wrong(times("lane 1;", 5), 5, 28);
        wrong(times("lane 1;", 4) + " lane", 5, 29);
        String cars = "color a change 1;" + times("car a body 1;", 12);
        right(cars, 13);
        wrong(cars + "car b body 1;", 5, cars.length());
    }

    private static void reading() {
        PaintBank bank = Due.with("color red change 5; color blue change 7; lane 2; lane 3;"
                + "car red body 1; car blue body 2 bad 2; window 2 3; batch 2 purge 4;"
                + "rework 3 delay 2; span 6;");
        int[] settings = {2, 2, 2, 2, 3, 2, 4, 3, 2, 6};
        for (int what = 0; what < settings.length; what++) {
            DUE.same("setting " + what, bank.setting(what), settings[what]);
        }
        bank.enter(0);
        bank.leave(0);
        bank.waits();
        Due.type(bank, "lane 4;color mint change 9;car mint body 0;");
        DUE.same("a setup in place of it", bank.readSetup(), 3);
        int[] plain = {1, 1, 1, 11, 11, 9, 0, 1, 3, 2};
        for (int what = 0; what < plain.length; what++) {
            DUE.same("setting " + what + " then", bank.setting(what), plain[what]);
        }
        DUE.same("hose then", bank.hose(), -1);
        DUE.same("run then", bank.run(), 0);
        DUE.same("time then", bank.time(), 0);
        DUE.same("outCount then", bank.outCount(), 0);
        DUE.same("waiting then", bank.waiting(), 1);
        DUE.same("logCount then", bank.logCount(), 0);
        DUE.same("undo then", bank.undo(), -1);
    }

    private static void afterAnError() {
        PaintBank bank = Due.with("color red change 5;lane 2;car red body 1;car red body 2;");
        bank.enter(0);
        bank.leave(0);
        Due.type(bank, "color blue change 3;lane 1;lane 9;");
        DUE.argument("a lane of 9", () -> bank.readSetup());
        DUE.same("code", bank.errorCode(), 2);
        DUE.same("position", bank.errorPosition(), 32);
        DUE.same("lanes as before", bank.setting(1), 1);
        DUE.same("price as before", bank.changeCost(0), 5);
        DUE.same("room as before", bank.room(0), 2);
        DUE.same("out as before", bank.outCount(), 1);
        DUE.same("time as before", bank.time(), 1);
        DUE.same("undo as before", bank.undo(), 1);
        DUE.same("the error stays behind an undo", bank.errorCode(), 2);
        DUE.same("a good text", bank.readSetup(), 0);
        DUE.same("no code then", bank.errorCode(), 0);
        DUE.same("no position then", bank.errorPosition(), -1);
        Due.type(bank, "wait 0;");
        DUE.argument("a script's error", () -> bank.runScript());
        DUE.same("its code", bank.errorCode(), 2);
        DUE.same("its position", bank.errorPosition(), 5);
        DUE.same("a good script", bank.runScript(), 0);
        DUE.same("no code behind it", bank.errorCode(), 0);
        DUE.same("no position behind it", bank.errorPosition(), -1);
    }

    private static void longest() {
        PaintBank bank = new PaintBank();
        Due.type(bank, times(" ", 793) + "lane 2;");
        DUE.same("a statement at the very end", bank.readSetup(), 1);
        DUE.same("its room", bank.room(0), 2);
        Due.type(bank, times("1", 800));
        DUE.argument("800 digits", () -> bank.readSetup());
        DUE.same("their position", bank.errorPosition(), 0);
        Due.type(bank, times(" ", 796) + "lane");
        DUE.argument("a text that ends too early", () -> bank.readSetup());
        DUE.same("its position", bank.errorPosition(), 800);
    }
}
