import java.nio.charset.StandardCharsets;

/** Counts the answers of one test program that are not as they are due, and types texts. */
final class Due {
    private static final Class<?> NOTHING = null;

    private int checked;
    private int wrong;
    private int sentences;
    private String sentence = "";

    interface Call {
        void make();
    }

    /** The document's words that the answers from here on are due by; told with each wrong one. */
    void sentence(String words) {
        sentences++;
        sentence = "\"" + words + "\": ";
    }

    void same(String what, long got, long want) {
        checked++;
        if (got != want) {
            tellWrong(what + " answered " + got + ", due is " + want);
        }
    }

    void same(String what, String got, String want) {
        checked++;
        if (!got.equals(want)) {
            tellWrong(what + " answered " + got + ", due is " + want);
        }
    }

    void none(String what, long got) {
        same(what, got, PaintBank.NONE);
    }

    private void tellWrong(String words) {
        wrong++;
        System.out.println(sentence + words);
    }

    void yes(String what, boolean got) {
        same(what, got ? 1 : 0, 1);
    }

    void no(String what, boolean got) {
        same(what, got ? 1 : 0, 0);
    }

    void outside(String what, Call call) {
        thrown(what, IndexOutOfBoundsException.class, call);
    }

    void argument(String what, Call call) {
        thrown(what, IllegalArgumentException.class, call);
    }

    void state(String what, Call call) {
        thrown(what, IllegalStateException.class, call);
    }

    /** The class itself is due: an exception of the machine may be a class below it. */
    private void thrown(String what, Class<?> want, Call call) {
        Class<?> got = NOTHING;
        try {
            call.make();
        } catch (RuntimeException e) {
            got = e.getClass();
        }
        checked++;
        if (got != want) {
            tellWrong(what + " threw " + got + ", due is " + want);
        }
    }

    void end() {
        String of = sentences > 0 ? " by " + sentences + " sentences" : "";
        System.out.println(checked + " answers checked" + of + ", " + wrong + " not as due");
        if (wrong != 0 || checked == 0) {
            System.exit(1);
        }
    }

    // ---- texts

    static void type(PaintBank bank, String text) {
        byte[] bytes = text.getBytes(StandardCharsets.ISO_8859_1);
        int length = 0;
        for (int i = 0; i < bytes.length; i += 20) {
            length = bank.feed(word(bytes, i), word(bytes, i + 4), word(bytes, i + 8),
                    word(bytes, i + 12), word(bytes, i + 16));
        }
        int rest = bytes.length % 20 == 0 ? 0 : 20 - bytes.length % 20;
        if (rest > 0) {
            bank.truncate(length - rest);
        }
    }

    static int word(byte[] bytes, int at) {
        int word = 0;
        for (int i = at; i < at + 4; i++) {
            word = word << 8 | (i < bytes.length ? bytes[i] & 255 : 0);
        }
        return word;
    }

    static PaintBank with(String setup) {
        PaintBank bank = new PaintBank();
        type(bank, setup);
        bank.readSetup();
        return bank;
    }

    static int play(PaintBank bank, String script) {
        type(bank, script);
        return bank.runScript();
    }

    static String reported(PaintBank bank) {
        int length = bank.report();
        StringBuilder text = new StringBuilder();
        for (int i = 0; i < length; i++) {
            text.append((char) bank.reportByte(i));
        }
        return text.toString();
    }
}
