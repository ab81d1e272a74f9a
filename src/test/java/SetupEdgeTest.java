/** The edges of section 1 and of promises 4 and 8 to 15: setups, their errors, and what they define. */
public final class SetupEdgeTest {
    private static final Due DUE = new Due();
    private static final String FIVE_COLORS = "color a change 1;color b change 1;color c change 1;"
            + "color d change 1;color e change 1;";
    private static final String COLOR = "color a change 1;";
    private static final String CAR = "car a body 0;";
    private static final String LANE = "lane 1;";
    private static final String[] WORDS = {"color", "change", "lane", "car", "body", "bad", "window",
        "batch", "purge", "rework", "delay", "span", "enter", "leave", "back", "wait", "step", "unload",
        "swap", "repeat"};

    public static void main(String[] args) {
        statements();
        grammar();
        endsTooEarly();
        wordLength();
        letters();
        numberLength();
        digits();
        otherBytes();
        blanks();
        names();
        changeRange();
        fiveColors();
        differentNames();
        laneRange();
        fourLanes();
        colorsBefore();
        bodyRange();
        badRange();
        twelveCars();
        windowRange();
        batchRange();
        purgeRange();
        reworkRange();
        delayRange();
        spanRange();
        onlyOnce();
        firstError();
        lowestCode();
        tooManyAtTheFirstWord();
        replacesAll();
        settingNumbers();
        colorNumbers();
        laneNumbers();
        carNumbers();
        presentJobs();
        failuresLeft();
        kindsOfCars();
        commonestKind();
        DUE.end();
    }

    private static void right(String setup, int statements) {
        PaintBank bank = new PaintBank();
        Due.type(bank, setup);
        int got = PaintBank.NONE;
        try {
            got = bank.readSetup();
        } catch (IllegalArgumentException e) {
            DUE.same("code of " + setup, bank.errorCode(), 0);
        }
        DUE.same("statements of " + setup, got, statements);
    }

    private static void wrong(String setup, int code, int position) {
        PaintBank bank = new PaintBank();
        Due.type(bank, setup);
        DUE.argument("readSetup of " + setup, () -> bank.readSetup());
        DUE.same("code of " + setup, bank.errorCode(), code);
        DUE.same("position of " + setup, bank.errorPosition(), position);
    }

    /** A number in a statement: all from least to greatest are right, and those next to them wrong. */
    private static void range(String before, String behind, int least, int greatest) {
        int statements = (before + behind).split(";").length;
        for (int n = least; n <= greatest; n++) {
            right(before + n + behind, statements);
        }
        if (least > 0) {
            wrong(before + (least - 1) + behind, 2, before.length());
        }
        wrong(before + (greatest + 1) + behind, 2, before.length());
        wrong(before + 999 + behind, 2, before.length());
    }

    // ---- the grammar

    private static void statements() {
        DUE.sentence("setup = { statement \";\" } [..] Returns the number of statements.");
        right("", 0);
        right(" ", 0);
        right(LANE, 1);
        right(LANE + LANE, 2);
        String most = FIVE_COLORS + LANE.repeat(4) + CAR.repeat(12) + "window 1 1;batch 1 purge 1;"
                + "rework 1 delay 1;span 1;";
        right(most, 25);
        right("span 1;rework 1 delay 1;batch 1 purge 1;window 1 1;" + LANE + COLOR + CAR, 7);
    }

    private static void grammar() {
        DUE.sentence("1: an invalid token, or a token that the grammar does not allow here.");
        String[] forms = {"color NAME change N ;", "lane N ;", "car a body N bad N ;", "window N N ;",
            "batch N purge N ;", "rework N delay N ;", "span N ;"};
        String[] strangers = {";", "(", ")", "1", "mint", "a", "color", "bad", "purge", "enter", "!",
            "0001", "lanelanes"};
        for (String form : forms) {
            String[] parts = form.split(" ");
            for (int k = 0; k < parts.length; k++) {
                StringBuilder before = new StringBuilder(COLOR);
                for (int i = 0; i < k; i++) {
                    before.append(sample(parts[i])).append(' ');
                }
                for (String stranger : strangers) {
                    if (!fits(stranger, parts[k], k)) {
                        wrong(before + stranger + " 1;", 1, before.length());
                    }
                }
            }
        }
    }

    private static String sample(String part) {
        return part.equals("N") ? "1" : part.equals("NAME") ? "mint" : part;
    }

    private static boolean fits(String token, String part, int k) {
        boolean first = k == 0 && token.equals("color");
        boolean name = part.equals("NAME") && (token.equals("mint") || token.equals("a"));
        // A car's color is a name, "mint" an unknown one; ";" may stand in place of "bad".
        boolean color = part.equals("a") && token.equals("mint");
        boolean end = part.equals("bad") && token.equals(";");
        return token.equals(sample(part)) || first || name || color || end;
    }

    private static void endsTooEarly() {
        DUE.sentence("or the length of the text if it ends too early");
        String[] texts = {"color mint change 1", "lane 1", "car a body 1 bad 1", "window 1 1",
            "batch 1 purge 1", "rework 1 delay 1", "span 1"};
        for (String text : texts) {
            String[] parts = text.split(" ");
            StringBuilder cut = new StringBuilder(COLOR);
            for (String part : parts) {
                cut.append(part);
                wrong(cut.toString(), 1, cut.length());
                cut.append(' ');
                wrong(cut.toString(), 1, cut.length());
            }
            right(cut + ";", 2);
        }
    }

    private static void wordLength() {
        DUE.sentence("A word is a maximal run of letters a to z, at most 8 of them.");
        right("color abcdefgh change 1;car abcdefgh body 1;", 2);
        wrong("color abcdefghi change 1;", 1, 6);
        wrong("color abcdefgh i change 1;", 1, 15);
        wrong(COLOR + "car abcdefgh body 1;", 4, 21);
        wrong(COLOR + "car abcdefghi body 1;", 1, 21);
        wrong("color " + "a".repeat(794), 1, 6);
        // A word that differs from one of the grammar by a letter before it is not that word.
        wrong("xxxxlane 1;", 1, 0);
        wrong("abcdelane 1;", 1, 0);
        wrong("lanea 1;", 1, 0);
        wrong("lan 1;", 1, 0);
    }

    private static void letters() {
        DUE.sentence("letters a to z");
        for (char letter = 'a'; letter <= 'z'; letter++) {
            right("color " + letter + " change 1;car " + letter + " body 1;", 2);
        }
        for (char sign : new char[] {'`', '{', '@', 'A', 'Z', '[', (char) 225}) {
            wrong("color " + sign + " change 1;", 1, 6);
            wrong("color a" + sign + " change 1;", 1, 7);
        }
    }

    private static void numberLength() {
        DUE.sentence("A number N is a maximal run of digits, at most 3 of them.");
        right("lane 6;", 1);
        right("lane 06;", 1);
        right("lane 006;", 1);
        wrong("lane 0006;", 1, 5);
        wrong("lane 999;", 2, 5);
        wrong("lane 1000;", 1, 5);
        wrong("lane " + "1".repeat(795), 1, 5);
        wrong("lane 00 6;", 2, 5);
        wrong("lane 1 6;", 1, 7);
    }

    private static void digits() {
        DUE.sentence("a maximal run of digits");
        PaintBank bank = Due.with("color a change 10;color b change 32;color c change 54;"
                + "color d change 76;color e change 98;");
        int[] prices = {10, 32, 54, 76, 98};
        for (int i = 0; i < prices.length; i++) {
            DUE.same("changeCost " + i, bank.changeCost(i), prices[i]);
        }
        wrong("lane /;", 1, 5);
        wrong("lane :;", 1, 5);
        wrong("lane 1/;", 1, 6);
        wrong("lane 1:;", 1, 6);
        wrong("lane -1;", 1, 5);
        wrong("lane 1.0;", 1, 6);
    }

    private static void otherBytes() {
        DUE.sentence("Every other byte, a longer run of letters and a longer run of digits is an invalid "
                + "token.");
        for (int sign = 0; sign < 256; sign++) {
            boolean blank = sign == ' ' || sign == '\n';
            boolean letter = sign >= 'a' && sign <= 'z';
            boolean digit = sign >= '0' && sign <= '9';
            if (!blank) {
                wrong(String.valueOf((char) sign), 1, 0);
                wrong(LANE + (char) sign, 1, 7);
            }
            if (!blank && !letter && !digit) {
                wrong("lane" + (char) sign + "2;", 1, 4);
                wrong("lane 2" + (sign == ';' ? '(' : (char) sign) + ";", 1, 6);
            }
        }
    }

    private static void blanks() {
        DUE.sentence("Spaces (byte 32) and line feeds (byte 10) may stand before, between and behind "
                + "tokens.");
        String[] parts = {"color", "a", "change", "1", ";", "car", "a", "body", "1", "bad", "2", ";"};
        for (String blank : new String[] {" ", "\n", "  ", "\n\n", " \n \n"}) {
            right(blank + String.join(blank, parts) + blank, 2);
            right(blank, 0);
        }
        right("lane1;lane2;", 2);
        for (char sign : new char[] {0, 9, 11, 13, 31, 33, 160}) {
            wrong(sign + LANE, 1, 0);
            wrong("lane" + sign + "1;", 1, 4);
            wrong(LANE + sign, 1, 7);
        }
    }

    private static void names() {
        DUE.sentence("NAME is a word that is not one of the words in quotes here and in section 6.");
        for (String word : WORDS) {
            wrong("color " + word + " change 1;", 1, 6);
            wrong("car " + word + " body 1;", 1, 4);
            String shorter = word.substring(1);
            right("color " + shorter + " change 1;car " + shorter + " body 1;", 2);
            right("color x" + word + " change 1;car x" + word + " body 1;", 2);
            right("color " + word + "s change 1;car " + word + "s body 1;", 2);
        }
        for (String word : new String[] {"setup", "script", "name", "n", "none", "out", "command"}) {
            right("color " + word + " change 1;", 1);
        }
    }

    // ---- what is defined

    private static void changeRange() {
        DUE.sentence("\"color\" defines a color and what a change to it costs (0 to 99).");
        range("color a change ", ";", 0, 99);
        for (int price : new int[] {0, 1, 98, 99}) {
            DUE.same("changeCost", Due.with("color a change " + price + ";").changeCost(0), price);
        }
    }

    private static void fiveColors() {
        DUE.sentence("Colors are numbered from 0, at most 5");
        right(FIVE_COLORS, 5);
        wrong(FIVE_COLORS + "color f change 1;", 5, FIVE_COLORS.length());
        PaintBank bank = Due.with("color e change 9;color d change 8;color c change 7;color b change 6;"
                + "color a change 5;car a body 0;car e body 0;");
        DUE.same("setting 0", bank.setting(0), 5);
        for (int color = 0; color < 5; color++) {
            DUE.same("changeCost " + color, bank.changeCost(color), 9 - color);
        }
        DUE.same("colorOf the last one defined", bank.colorOf(0), 4);
        DUE.same("colorOf the first one defined", bank.colorOf(1), 0);
    }

    private static void differentNames() {
        DUE.sentence("with different names [..] 3: the name of a color that is defined already");
        wrong("color a change 1;color a change 1;", 3, 23);
        wrong("color a change 1;color b change 2;color a change 1;", 3, 40);
        wrong("color a change 1;color b change 2;color b change 1;", 3, 40);
        wrong("color abcdefgh change 1;color abcdefgh", 3, 30);
        right("color abcdefgh change 1;color bbcdefgh change 1;color abcdefgi change 1;"
                + "color abcdefg change 1;color bcdefgh change 1;", 5);
        wrong(FIVE_COLORS.substring(0, 68) + "color a change 1;", 3, 74);
    }

    private static void laneRange() {
        DUE.sentence("\"lane\" defines a lane with its room for cars (1 to 6).");
        range("lane ", ";", 1, 6);
        for (int room = 1; room <= 6; room++) {
            DUE.same("room", Due.with("lane " + room + ";").room(0), room);
        }
    }

    private static void fourLanes() {
        DUE.sentence("Lanes are numbered from 0, at most 4.");
        right(LANE.repeat(4), 4);
        wrong(LANE.repeat(5), 5, 28);
        PaintBank bank = Due.with("lane 6;lane 1;lane 3;lane 5;");
        int[] rooms = {6, 1, 3, 5};
        for (int lane = 0; lane < 4; lane++) {
            DUE.same("room " + lane, bank.room(lane), rooms[lane]);
        }
    }

    private static void colorsBefore() {
        DUE.sentence("\"car\" defines a car with its color, which stands before [..] 4: the name of a "
                + "color that does not stand before.");
        right(COLOR + CAR, 2);
        wrong(CAR + COLOR, 4, 4);
        wrong("car b body 0;", 4, 4);
        wrong(COLOR + "car b body 0;color b change 1;", 4, 21);
        wrong(COLOR + "car b", 4, 21);
        right(FIVE_COLORS + "car e body 0;car a body 0;", 7);
        wrong(FIVE_COLORS + "car f body 0;", 4, FIVE_COLORS.length() + 4);
        wrong("color ab change 1;car a body 0;", 4, 22);
        wrong("color a change 1;car aa body 0;", 4, 21);
        PaintBank later = Due.with(FIVE_COLORS);
        DUE.same("the same names in a later setup", again(later, FIVE_COLORS), 5);
        DUE.none("a color of an earlier setup", again(later, "color x change 1;car b body 0;"));
        DUE.same("its code", later.errorCode(), 4);
        DUE.none("the first one of an earlier setup", again(later, "car a body 0;"));
        DUE.same("its code", later.errorCode(), 4);
        DUE.same("the setup before the errors", later.setting(0), 5);
    }

    /** Reads one more setup; answers NONE if it has an error. */
    private static int again(PaintBank bank, String setup) {
        Due.type(bank, setup);
        try {
            return bank.readSetup();
        } catch (IllegalArgumentException e) {
            return PaintBank.NONE;
        }
    }

    private static void bodyRange() {
        DUE.sentence("its body (0 to 3)");
        range(COLOR + "car a body ", ";", 0, 3);
        range(COLOR + "car a body ", " bad 1;", 0, 3);
        for (int body = 0; body <= 3; body++) {
            DUE.same("body", Due.with(COLOR + "car a body " + body + ";").body(0), body);
        }
    }

    private static void badRange() {
        DUE.sentence("how often painting will fail (0 to 2; 0 without it)");
        range(COLOR + "car a body 3 bad ", ";", 0, 2);
        PaintBank bank = Due.with(COLOR + "car a body 0 bad 2;car a body 0;car a body 0 bad 1;"
                + "car a body 0 bad 0;car a body 0;");
        int[] bads = {2, 0, 1, 0, 0};
        for (int car = 0; car < bads.length; car++) {
            DUE.same("bad " + car, bank.bad(car), bads[car]);
        }
        wrong(COLOR + "car a body 0 bad 1 bad 1;", 1, 36);
        Due.type(bank, COLOR + CAR);
        bank.readSetup();
        DUE.same("bad of a later setup without it", bank.bad(0), 0);
    }

    private static void twelveCars() {
        DUE.sentence("Cars are numbered from 0, at most 12, which is their place in the sequence.");
        right(COLOR + CAR.repeat(12), 13);
        wrong(COLOR + CAR.repeat(13), 5, COLOR.length() + 12 * CAR.length());
        StringBuilder text = new StringBuilder(COLOR + "lane 6;lane 6;");
        for (int car = 0; car < 12; car++) {
            text.append("car a body ").append(car % 4).append(';');
        }
        PaintBank bank = Due.with(text.toString());
        for (int car = 0; car < 12; car++) {
            DUE.same("body " + car, bank.body(car), car % 4);
            DUE.same("enter", bank.enter(car / 6), car);
        }
        DUE.none("a 13th", bank.enter(0));
    }

    private static void windowRange() {
        DUE.sentence("how many places a car may move ahead and back (0 to 11 each; 11 and 11 without it)");
        range("window ", " 0;", 0, 11);
        range("window 0 ", ";", 0, 11);
        settings("", 3, 11, 4, 11);
        settings("window 0 11;", 3, 0, 4, 11);
        settings("window 11 0;", 3, 11, 4, 0);
        settings("window 3 4;", 3, 3, 4, 4);
    }

    private static void settings(String setup, int... pairs) {
        PaintBank bank = Due.with(setup);
        for (int i = 0; i < pairs.length; i += 2) {
            DUE.same("setting " + pairs[i] + " of " + setup, bank.setting(pairs[i]), pairs[i + 1]);
        }
    }

    private static void batchRange() {
        DUE.sentence("after so many cars of one color one behind the other (1 to 9; 9 without it)");
        range("batch ", " purge 0;", 1, 9);
        settings("", 5, 9);
        settings("batch 1 purge 5;", 5, 1);
        settings("batch 9 purge 5;", 5, 9);
    }

    private static void purgeRange() {
        DUE.sentence("a purge is needed, which costs something (0 to 99; 0 without it)");
        range("batch 1 purge ", ";", 0, 99);
        settings("", 6, 0);
        settings("batch 1 purge 0;", 6, 0);
        settings("batch 1 purge 99;", 6, 99);
    }

    private static void reworkRange() {
        DUE.sentence("the room of the rework lane (0 to 3; 1 without it)");
        range("rework ", " delay 0;", 0, 3);
        settings("", 7, 1);
        settings("rework 0 delay 5;", 7, 0);
        settings("rework 3 delay 5;", 7, 3);
    }

    private static void delayRange() {
        DUE.sentence("the delay in it (0 to 9; 3 without it)");
        range("rework 0 delay ", ";", 0, 9);
        settings("", 8, 3);
        settings("rework 1 delay 0;", 8, 0);
        settings("rework 1 delay 9;", 8, 9);
    }

    private static void spanRange() {
        DUE.sentence("how far apart cars may be that exchange jobs (0 to 11; 2 without it)");
        range("span ", ";", 0, 11);
        settings("", 9, 2);
        settings("span 0;", 9, 0);
        settings("span 11;", 9, 11);
    }

    private static void onlyOnce() {
        DUE.sentence("Each of these may stand once. [..] 3: [..] the first word of a second \"window\", "
                + "\"batch\", \"rework\" or \"span\".");
        String[] once = {"window 1 1;", "batch 1 purge 1;", "rework 1 delay 1;", "span 1;"};
        String all = String.join("", once);
        right(all, 4);
        for (String each : once) {
            wrong(each + each, 3, each.length());
            wrong(each + LANE + COLOR + CAR + each, 3, each.length() + 37);
            wrong(all + each, 3, all.length());
            String word = each.substring(0, each.indexOf(' '));
            wrong(each + word, 3, each.length());
            wrong(each + word + " 99 99;", 3, each.length());
        }
        PaintBank bank = Due.with(all);
        Due.type(bank, all);
        DUE.same("a setup of its own", bank.readSetup(), 4);
        Due.type(bank, all + "window 2 2;");
        DUE.argument("a second one", () -> bank.readSetup());
        Due.type(bank, all);
        DUE.same("behind an error", bank.readSetup(), 4);
    }

    // ---- errors

    private static void firstError() {
        DUE.sentence("Tokens are checked from left to right and the first error is reported");
        wrong("lane 7;!", 2, 5);
        wrong("lane 7!", 2, 5);
        wrong("lane 7", 2, 5);
        wrong("lane 0;lane 7;", 2, 5);
        wrong("! lane 7;", 1, 0);
        wrong("car a body 9;!", 4, 4);
        wrong("window 12 99;", 2, 7);
        wrong("window 11 12;!", 2, 10);
        wrong("batch 10 delay 1;", 2, 6);
        wrong("batch 1 delay 100;", 1, 8);
        wrong("color a change 100;color a change 1;", 2, 15);
        wrong("color a change 1;color a change 100;", 3, 23);
        wrong(COLOR + "car a body 4 bad 3;", 2, 28);
        wrong(LANE.repeat(4) + "lane 7;", 5, 28);
    }

    private static void lowestCode() {
        DUE.sentence("if several codes apply at one token, the lowest one");
        wrong("lane 7777;", 1, 5);
        wrong("car lane body 1;", 1, 4);
        wrong("car abcdefghi body 1;", 1, 4);
        wrong(COLOR + "color color change 1;", 1, 23);
        wrong(FIVE_COLORS + "colors f change 1;", 1, FIVE_COLORS.length());
    }

    private static void tooManyAtTheFirstWord() {
        DUE.sentence("5: the first word of a 6th color, a 5th lane or a 13th car.");
        String cars = COLOR + CAR.repeat(12);
        for (String rest : new String[] {"", " ", ";", " 7;", " a change 1;", " !", " lane"}) {
            wrong(FIVE_COLORS + "color" + rest, 5, FIVE_COLORS.length());
            wrong(LANE.repeat(4) + "lane" + rest, 5, 28);
            wrong(cars + "car" + rest, 5, cars.length());
        }
        wrong(cars + "\n car z body 9;", 5, cars.length() + 2);
        right(FIVE_COLORS + LANE.repeat(4) + CAR.repeat(12), 21);
    }

    private static void replacesAll() {
        DUE.sentence("Reads the whole buffer as a setup, which replaces all that there is but the saved "
                + "state and the latest report");
        String full = FIVE_COLORS + "lane 6;lane 6;lane 6;lane 6;window 10 9;batch 1 purge 9;"
                + "rework 3 delay 9;span 11;" + "car e body 3 bad 1;car d body 3 bad 1;car d body 3;".repeat(4);
        String[] setups = {"", "lane 1;color x change 9;color y change 8;car y body 0 bad 1;car x body 0;"};
        for (String setup : setups) {
            PaintBank bank = Due.with(full);
            Due.play(bank, "step 37;");
            DUE.yes("changes before", bank.changes() > 0);
            DUE.yes("purges before", bank.purges() > 0);
            DUE.yes("a car in the rework lane before", bank.inRework(0) != PaintBank.NONE);
            DUE.yes("an unloading before", bank.unloadCost() > 0);
            Due.type(bank, setup);
            bank.readSetup();
            PaintBank same = Due.with(setup);
            DUE.same("all behind " + setup, Look.at(bank), Look.at(same));
            Due.play(bank, "step 4;");
            Due.play(same, "step 4;");
            DUE.same("all behind steps of " + setup, Look.through(bank), Look.through(same));
        }
        PaintBank bank = Due.with(full);
        bank.enter(0);
        bank.waits();
        bank.save();
        int length = bank.report();
        Due.type(bank, LANE);
        bank.readSetup();
        DUE.same("the latest report's last byte", bank.reportByte(length - 1), '\n');
        DUE.outside("and its end", () -> bank.reportByte(length));
        DUE.same("the saved state", bank.restore(), 1);
        DUE.same("a car of it", bank.inLane(0, 0), 0);
    }

    // ---- promises 8 to 15

    private static void outside(String what, int count, java.util.function.IntUnaryOperator call) {
        for (int i : new int[] {-1, count, count + 1, 99, Integer.MIN_VALUE, Integer.MAX_VALUE}) {
            DUE.outside(what + "(" + i + ") of " + count, () -> call.applyAsInt(i));
        }
        for (int i = 0; i < count; i++) {
            call.applyAsInt(i);
        }
    }

    private static void settingNumbers() {
        DUE.sentence("what: 0 the number of colors, [..] 9 the span [..] Throws IllegalArgumentException if "
                + "what is out of range");
        PaintBank bank = Due.with(FIVE_COLORS + LANE.repeat(4) + CAR.repeat(12)
                + "window 3 4;batch 5 purge 6;rework 2 delay 8;span 9;");
        int[] want = {5, 4, 12, 3, 4, 5, 6, 2, 8, 9};
        for (int what = 0; what < want.length; what++) {
            DUE.same("setting " + what, bank.setting(what), want[what]);
        }
        for (int what : new int[] {-1, 10, Integer.MIN_VALUE, Integer.MAX_VALUE}) {
            DUE.argument("setting " + what, () -> bank.setting(what));
        }
    }

    private static void colorNumbers() {
        DUE.sentence("The parameters car, color and lane are numbers of existing ones; otherwise "
                + "IndexOutOfBoundsException is thrown.");
        PaintBank none = new PaintBank();
        PaintBank five = Due.with(FIVE_COLORS);
        PaintBank one = Due.with(COLOR);
        outside("changeCost", 0, none::changeCost);
        outside("changeCost", 1, one::changeCost);
        outside("changeCost", 5, five::changeCost);
    }

    private static void laneNumbers() {
        PaintBank none = new PaintBank();
        PaintBank four = Due.with(LANE.repeat(4));
        PaintBank one = Due.with(LANE);
        outside("room", 0, none::room);
        outside("room", 1, one::room);
        outside("room", 4, four::room);
    }

    private static void carNumbers() {
        PaintBank none = Due.with(COLOR);
        PaintBank one = Due.with(COLOR + CAR);
        PaintBank twelve = Due.with(COLOR + CAR.repeat(12));
        outside("body", 0, none::body);
        outside("body", 1, one::body);
        outside("body", 12, twelve::body);
        outside("colorOf", 0, none::colorOf);
        outside("colorOf", 1, one::colorOf);
        outside("colorOf", 12, twelve::colorOf);
        outside("bad", 0, none::bad);
        outside("bad", 1, one::bad);
        outside("bad", 12, twelve::bad);
    }

    private static void presentJobs() {
        DUE.sentence("Returns the color of a car (its present job).");
        PaintBank bank = Due.with("color a change 1;color b change 1;lane 2;car b body 0;car a body 0;");
        DUE.same("colorOf 0", bank.colorOf(0), 1);
        bank.swap();
        DUE.same("colorOf 0 behind a swap", bank.colorOf(0), 0);
        DUE.same("colorOf 1 behind a swap", bank.colorOf(1), 1);
    }

    private static void failuresLeft() {
        DUE.sentence("Returns how often painting a car will still fail.");
        PaintBank bank = Due.with(COLOR + "lane 1;rework 1 delay 0;car a body 0 bad 2;");
        bank.enter(0);
        for (int left = 2; left > 0; left--) {
            DUE.same("bad", bank.bad(0), left);
            bank.leave(0);
            bank.back(0);
        }
        DUE.same("bad before the last painting", bank.bad(0), 0);
        bank.leave(0);
        DUE.same("bad behind it", bank.bad(0), 0);
    }

    private static void kindsOfCars() {
        DUE.sentence("Returns the number of different kinds of cars: of one kind are those with the same "
                + "body and the same color.");
        DUE.same("no car", Due.with(COLOR).kinds(), 0);
        DUE.same("one car", Due.with(COLOR + CAR).kinds(), 1);
        DUE.same("two of a kind", Due.with(COLOR + CAR + CAR).kinds(), 1);
        DUE.same("two bodies", Due.with(COLOR + CAR + "car a body 3;").kinds(), 2);
        DUE.same("two colors", Due.with(FIVE_COLORS + CAR + "car e body 0;").kinds(), 2);
        DUE.same("twelve of a kind", Due.with(COLOR + CAR.repeat(12)).kinds(), 1);
        DUE.same("twelve kinds", twelveKinds().kinds(), 12);
        DUE.same("first and last of a kind", Due.with(FIVE_COLORS + CAR + "car b body 0;".repeat(10)
                + CAR).kinds(), 2);
        // Numbers of body and color that have the same sum, or are exchanged.
        DUE.same("b1, a2, c0", Due.with(FIVE_COLORS + "car b body 1;car a body 2;car c body 0;").kinds(), 3);
        DUE.same("b0, a1", Due.with(FIVE_COLORS + "car b body 0;car a body 1;").kinds(), 2);
        DUE.same("failures are no matter", Due.with(COLOR + CAR + "car a body 0 bad 2;").kinds(), 1);
    }

    private static PaintBank twelveKinds() {
        StringBuilder text = new StringBuilder(FIVE_COLORS);
        for (int car = 0; car < 12; car++) {
            text.append("car ").append((char) ('a' + car % 5)).append(" body ").append(car % 4).append(';');
        }
        return Due.with(text.toString());
    }

    private static void commonestKind() {
        DUE.sentence("Returns the greatest number of cars of one kind; 0 without cars.");
        DUE.same("no car", Due.with(COLOR).commonest(), 0);
        DUE.same("no setup", new PaintBank().commonest(), 0);
        DUE.same("one car", Due.with(COLOR + CAR).commonest(), 1);
        DUE.same("two of a kind", Due.with(COLOR + CAR + CAR).commonest(), 2);
        DUE.same("twelve of a kind", Due.with(COLOR + CAR.repeat(12)).commonest(), 12);
        DUE.same("twelve kinds", twelveKinds().commonest(), 1);
        DUE.same("the last two of a kind", Due.with(FIVE_COLORS + CAR + "car b body 0;".repeat(2))
                .commonest(), 2);
        DUE.same("the first and the last", Due.with(FIVE_COLORS + CAR + "car b body 0;" + CAR)
                .commonest(), 2);
        DUE.same("one color, three bodies", Due.with(COLOR + CAR + "car a body 1;car a body 2;")
                .commonest(), 1);
    }
}
