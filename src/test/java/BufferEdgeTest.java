/** The edges of promises 1 to 7: a new object, the buffer, and what is told of an error. */
public final class BufferEdgeTest {
    private static final Due DUE = new Due();
    private static final int BLANKS = 0x20202020;

    public static void main(String[] args) {
        newObject();
        emptyBuffer();
        eightHundredBytes();
        feedBeyond();
        feedOrder();
        feedAnswer();
        truncateLengths();
        truncateAnswer();
        readAndEmptied();
        runAndEmptied();
        noError();
        everyCode();
        positions();
        latestError();
        errorsChangeNothing();
        DUE.end();
    }

    private static PaintBank holding(int bytes) {
        PaintBank bank = new PaintBank();
        Due.type(bank, " ".repeat(bytes));
        return bank;
    }

    // ---- promise 1

    private static void newObject() {
        DUE.sentence("Creates a line as if an empty setup was read, with an empty buffer.");
        PaintBank read = new PaintBank();
        DUE.same("readSetup", read.readSetup(), 0);
        DUE.same("a new object", Look.through(new PaintBank()), Look.through(read));
        int[] settings = {0, 0, 0, 11, 11, 9, 0, 1, 3, 2};
        for (int what = 0; what < settings.length; what++) {
            DUE.same("setting " + what, new PaintBank().setting(what), settings[what]);
        }
    }

    private static void emptyBuffer() {
        DUE.sentence("with an empty buffer");
        DUE.same("bytes", Look.buffered(new PaintBank()), 0);
        DUE.argument("truncate(1)", () -> new PaintBank().truncate(1));
        DUE.same("truncate(0)", new PaintBank().truncate(0), 0);
    }

    // ---- promise 2

    private static void eightHundredBytes() {
        DUE.sentence("It is read from a buffer of at most 800 bytes.");
        PaintBank bank = new PaintBank();
        for (int feeds = 1; feeds <= 40; feeds++) {
            DUE.same("feed " + feeds, bank.feed(BLANKS, BLANKS, BLANKS, BLANKS, BLANKS), 20 * feeds);
        }
        DUE.state("feed 41", () -> bank.feed(BLANKS, BLANKS, BLANKS, BLANKS, BLANKS));
        PaintBank last = new PaintBank();
        Due.type(last, " ".repeat(793) + "lane 6;");
        DUE.same("a statement in the last bytes", last.readSetup(), 1);
        DUE.same("its room", last.room(0), 6);
        Due.type(last, " ".repeat(799) + "!");
        DUE.argument("a wrong byte at 799", () -> last.readSetup());
        DUE.same("its position", last.errorPosition(), 799);
    }

    private static void feedBeyond() {
        DUE.sentence("Throws IllegalStateException if it would exceed 800");
        DUE.same("at 0", holding(0).feed(1, 2, 3, 4, 5), 20);
        DUE.same("at 779", holding(779).feed(1, 2, 3, 4, 5), 799);
        DUE.same("at 780", holding(780).feed(1, 2, 3, 4, 5), 800);
        for (int length = 781; length <= 800; length++) {
            PaintBank bank = holding(length);
            DUE.state("at " + length, () -> bank.feed(1, 2, 3, 4, 5));
            DUE.same("bytes behind that", Look.buffered(bank), length);
            DUE.same("they are blanks still", bank.readSetup(), 0);
        }
    }

    private static void feedOrder() {
        DUE.sentence("Appends 20 bytes to the buffer: the four bytes of each argument, the most "
                + "significant byte first.");
        for (int sign : new int[] {0, 1, 127, 128, 255}) {
            for (int place = 0; place < 20; place++) {
                int[] words = {BLANKS, BLANKS, BLANKS, BLANKS, BLANKS};
                int shift = 24 - place % 4 * 8;
                words[place / 4] = words[place / 4] & ~(255 << shift) | sign << shift;
                PaintBank bank = new PaintBank();
                bank.feed(words[0], words[1], words[2], words[3], words[4]);
                DUE.argument("byte " + sign + " at " + place, () -> bank.readSetup());
                DUE.same("position of " + sign + " at " + place, bank.errorPosition(), place);
            }
        }
        PaintBank twice = new PaintBank();
        // "lane" " 2;l" "ane " "3;la" "ne 4" ";lan" "e 5;"
        twice.feed(0x6c616e65, 0x20323b6c, 0x616e6520, 0x333b6c61, 0x6e652034);
        twice.feed(0x3b6c616e, 0x6520353b, BLANKS, BLANKS, BLANKS);
        DUE.same("a text of two feeds", twice.readSetup(), 4);
        for (int lane = 0; lane < 4; lane++) {
            DUE.same("room " + lane, twice.room(lane), lane + 2);
        }
    }

    private static void feedAnswer() {
        DUE.sentence("Returns the number of bytes in the buffer.");
        PaintBank bank = new PaintBank();
        DUE.same("the first 20", bank.feed(0, 0, 0, 0, 0), 20);
        bank.truncate(1);
        DUE.same("behind one byte", bank.feed(-1, -1, -1, -1, -1), 21);
        bank.truncate(0);
        DUE.same("behind none", bank.feed(0, 0, 0, 0, 0), 20);
    }

    // ---- promise 3

    private static void truncateLengths() {
        DUE.sentence("Throws IllegalArgumentException if n is negative or greater than the present length");
        for (int length : new int[] {0, 1, 19, 20, 799, 800}) {
            for (int n : new int[] {-1, length + 1, Integer.MIN_VALUE, Integer.MAX_VALUE}) {
                PaintBank bank = holding(length);
                DUE.argument("truncate(" + n + ") of " + length, () -> bank.truncate(n));
                DUE.same("bytes behind that", Look.buffered(bank), length);
            }
            DUE.same("to " + length, holding(length).truncate(length), length);
            DUE.same(length + " to 0", holding(length).truncate(0), 0);
        }
    }

    private static void truncateAnswer() {
        DUE.sentence("Truncates the buffer.");
        PaintBank bank = new PaintBank();
        Due.type(bank, "lane 2;lane 3;lane 4");
        DUE.same("by one", bank.truncate(19), 19);
        DUE.argument("back to 20", () -> bank.truncate(20));
        DUE.same("to the same", bank.truncate(19), 19);
        DUE.same("to two statements", bank.truncate(14), 14);
        DUE.same("which are left", bank.readSetup(), 2);
    }

    // ---- promises 4 and 5

    private static void readAndEmptied() {
        DUE.sentence("Reads the whole buffer as a setup, [..] and empties the buffer, also if the text "
                + "has an error.");
        PaintBank bank = new PaintBank();
        Due.type(bank, "lane 2;");
        bank.readSetup();
        DUE.same("bytes behind a good text", Look.buffered(bank), 0);
        DUE.same("an empty one", bank.readSetup(), 0);
        Due.type(bank, " ".repeat(799) + ";");
        DUE.argument("a wrong one", () -> bank.readSetup());
        DUE.same("bytes behind a wrong one", Look.buffered(bank), 0);
        DUE.same("another empty one", bank.readSetup(), 0);
    }

    private static void runAndEmptied() {
        DUE.sentence("Reads the whole buffer as a script, empties the buffer, also if the text has an "
                + "error, and runs the script.");
        PaintBank bank = new PaintBank();
        DUE.same("a good script", Due.play(bank, "wait 1;"), 1);
        DUE.same("bytes behind a good script", Look.buffered(bank), 0);
        DUE.same("an empty one", bank.runScript(), 0);
        Due.type(bank, " ".repeat(799) + ";");
        DUE.argument("a wrong one", () -> bank.runScript());
        DUE.same("bytes behind a wrong one", Look.buffered(bank), 0);
        DUE.same("another empty one", bank.runScript(), 0);
        DUE.same("the last bytes", Due.play(bank, " ".repeat(793) + "wait 2;"), 1);
        DUE.same("time", bank.time(), 3);
    }

    // ---- promises 6 and 7

    private static void error(String what, PaintBank bank, int code, int position) {
        DUE.same("code " + what, bank.errorCode(), code);
        DUE.same("position " + what, bank.errorPosition(), position);
    }

    private static void noError() {
        DUE.sentence("0 if there was none or no such call. [..] NONE if there was none or no such call.");
        PaintBank bank = new PaintBank();
        error("at first", bank, 0, -1);
        Due.type(bank, "!");
        error("of a text that is not read yet", bank, 0, -1);
        bank.truncate(0);
        bank.readSetup();
        error("of an empty setup", bank, 0, -1);
        bank.runScript();
        error("of an empty script", bank, 0, -1);
        Due.type(bank, "lane 1;");
        bank.readSetup();
        error("of a good setup", bank, 0, -1);
        Due.play(bank, "enter 0;");
        error("of a script that ends early", bank, 0, -1);
    }

    private static void everyCode() {
        DUE.sentence("Returns the code of the error of the latest readSetup() or runScript()");
        String[] setups = {"!", "lane 7;", "span 1;span 1;", "car a body 1;",
            "lane 1;lane 1;lane 1;lane 1;lane 1;"};
        int[] places = {0, 5, 7, 4, 28};
        PaintBank bank = new PaintBank();
        for (int i = 0; i < setups.length; i++) {
            Due.type(bank, setups[i]);
            DUE.argument(setups[i], () -> bank.readSetup());
            error("of " + setups[i], bank, i + 1, places[i]);
        }
        String[] scripts = {"!", "wait 0;", "repeat 1(repeat 1(repeat 1(););)", "",
            "swap;".repeat(41)};
        int[] spots = {0, 5, 18, 0, 200};
        for (int i = 0; i < scripts.length; i++) {
            if (!scripts[i].isEmpty()) {
                Due.type(bank, scripts[i]);
                DUE.argument(scripts[i], () -> bank.runScript());
                error("of " + scripts[i], bank, i + 1, spots[i]);
            }
        }
    }

    private static void positions() {
        DUE.sentence("the index of the first byte of a token, or the length of the text if it ends too early");
        PaintBank bank = new PaintBank();
        for (int at = 0; at <= 799; at += at < 2 || at >= 798 ? 1 : 199) {
            Due.type(bank, " ".repeat(at) + "!");
            DUE.argument("at " + at, () -> bank.readSetup());
            error("of a token at " + at, bank, 1, at);
        }
        for (int length : new int[] {4, 5, 20, 21, 799, 800}) {
            Due.type(bank, "lane" + " ".repeat(length - 4));
            DUE.argument("length " + length, () -> bank.readSetup());
            error("of the length " + length, bank, 1, length);
            Due.type(bank, " ".repeat(length - 4) + "swap");
            DUE.argument("script of length " + length, () -> bank.runScript());
            error("of the script's length " + length, bank, 1, length);
        }
    }

    private static void latestError() {
        DUE.sentence("of the latest readSetup() or runScript()");
        PaintBank bank = new PaintBank();
        Due.type(bank, "lane 0;");
        DUE.argument("a setup", () -> bank.readSetup());
        Due.type(bank, " ;");
        DUE.argument("a script", () -> bank.runScript());
        error("of the script", bank, 1, 1);
        Due.type(bank, "  lane 0;");
        DUE.argument("a setup again", () -> bank.readSetup());
        error("of the setup", bank, 2, 7);
        bank.waits();
        bank.undo();
        bank.save();
        bank.restore();
        bank.report();
        error("behind other calls", bank, 2, 7);
        bank.runScript();
        error("behind a good script", bank, 0, -1);
        Due.type(bank, ";");
        DUE.argument("a script again", () -> bank.runScript());
        bank.readSetup();
        error("behind a good setup", bank, 0, -1);
    }

    private static PaintBank busy() {
        PaintBank bank = Due.with("color a change 5;color b change 6;lane 2;lane 3;car a body 0;"
                + "car b body 0 bad 1;car a body 1;");
        bank.enter(0);
        bank.leave(0);
        bank.save();
        bank.enter(1);
        bank.report();
        return bank;
    }

    private static void errorsChangeNothing() {
        DUE.sentence("Throws IllegalArgumentException if the text has an error; only the buffer, errorCode() "
                + "and errorPosition() change then");
        String[] setups = {"color z change 1;lane 6;car z body 2;window 1 1;batch 1 purge 1;"
            + "rework 3 delay 0;span 0", ";", "lane 7;"};
        String[] scripts = {"wait 5;leave 1;swap;step 3;unload;repeat 2 (wait 1;)", ";", "wait 0;"};
        PaintBank untouched = busy();
        // The error is a part of what is looked at.
        Due.type(untouched, "!");
        DUE.argument("!", () -> untouched.runScript());
        String want = Look.through(untouched);
        for (String setup : setups) {
            PaintBank bank = busy();
            Due.type(bank, setup);
            DUE.argument(setup, () -> bank.readSetup());
            Due.type(bank, "!");
            DUE.argument("!", () -> bank.readSetup());
            DUE.same("all behind the setup " + setup, Look.through(bank), want);
        }
        for (String script : scripts) {
            PaintBank bank = busy();
            Due.type(bank, script);
            DUE.argument(script, () -> bank.runScript());
            Due.type(bank, "!");
            DUE.argument("!", () -> bank.runScript());
            DUE.same("all behind the script " + script, Look.through(bank), want);
        }
    }
}
