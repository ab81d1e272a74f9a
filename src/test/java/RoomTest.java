import java.lang.management.ManagementFactory;

/** Calls make nothing new, so that all calls of a run fit into one room. */
public final class RoomTest {
    private static final Due DUE = new Due();
    private static final int ROUNDS = 300;
    // Far less than one small object for each of the calls that are counted.
    private static final long ALLOWED = 50_000;

    public static void main(String[] args) {
        StringBuilder setup = new StringBuilder("color aa change 3;color b change 2;color c change 4;");
        setup.append("lane 3;lane 3;lane 3;lane 3;span 11;batch 2 purge 3;rework 3 delay 1;");
        for (int i = 0; i < 4; i++) {
            setup.append("car aa body 0;car b body 1;car c body ").append(i % 2).append(" bad 1;");
        }
        PaintBank bank = new PaintBank();
        int[] text = words(setup.toString());
        int[] script = words("swap;repeat 9(step 2;enter 1;);unload;wait 3;step 99;");
        long sum = 0;
        for (int i = 0; i < ROUNDS; i++) {
            sum += round(bank, text, script);
        }
        long before = made();
        for (int i = 0; i < ROUNDS; i++) {
            sum += round(bank, text, script);
        }
        long bytes = made() - before;
        System.out.println(bytes + " bytes made in some " + ROUNDS * 60 + " calls, sum " + sum);
        DUE.yes("the calls make nothing new", bytes < ALLOWED);
        DUE.end();
    }

    private static long made() {
        com.sun.management.ThreadMXBean bean =
                (com.sun.management.ThreadMXBean) ManagementFactory.getThreadMXBean();
        return bean.getThreadAllocatedBytes(Thread.currentThread().getId());
    }

    private static int[] words(String text) {
        byte[] bytes = text.getBytes(java.nio.charset.StandardCharsets.ISO_8859_1);
        int[] words = new int[(bytes.length + 19) / 20 * 5];
        for (int i = 0; i < words.length; i++) {
            words[i] = Due.word(bytes, 4 * i);
        }
        for (int i = bytes.length; i < 4 * words.length; i++) {
            int shift = 24 - i % 4 * 8;
            words[i / 4] = words[i / 4] & ~(255 << shift) | 32 << shift;
        }
        return words;
    }

    private static void type(PaintBank bank, int[] words) {
        for (int i = 0; i < words.length; i += 5) {
            bank.feed(words[i], words[i + 1], words[i + 2], words[i + 3], words[i + 4]);
        }
    }

    private static long round(PaintBank bank, int[] setup, int[] script) {
        type(bank, setup);
        long sum = bank.readSetup();
        sum += bank.swapChanges() + bank.swapColor(3) + bank.kinds() + bank.commonest();
        sum += bank.ruleCost(300) + bank.ruleOut(300) + bank.stepsToOut(5) + bank.bound();
        for (int i = 0; i < 8; i++) {
            sum += bank.enter(i % 4);
        }
        sum += bank.unloadCost() + bank.unloadChanges() + bank.unloadLane(2) + bank.laneBound();
        sum += bank.leave(0) + bank.leave(2) + bank.waits() + bank.back(0) + bank.step();
        sum += bank.save() + bank.undo() + bank.report() + bank.reportByte(3);
        type(bank, script);
        sum += bank.runScript() + bank.late() + bank.longestBatch() + bank.logCount() + bank.log(0, 2);
        sum += bank.swap() + bank.unload() + bank.undo() + bank.restore() + bank.laneFor(2);
        return sum;
    }
}
