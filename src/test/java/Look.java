/**
 * All that a bank answers, as a text, so that two banks can be compared. An object is used for 512
 * calls only: a look takes some 450 of them in the worst case, some 150 with a few cars.
 */
final class Look {
    private final StringBuilder text = new StringBuilder();
    private final PaintBank bank;

    private Look(PaintBank bank) {
        this.bank = bank;
    }

    /** All but the buffer, the error, the latest report, what can be undone, and the saved state. */
    static String at(PaintBank bank) {
        Look look = new Look(bank);
        look.setup();
        look.cars();
        look.line();
        look.searches();
        look.log();
        return look.text.toString();
    }

    /** What at() leaves out, too; this changes the bank. Banks with few cars only. */
    static String through(PaintBank bank) {
        Look look = new Look(bank);
        look.add("error " + bank.errorCode() + " " + bank.errorPosition());
        look.add("report " + reported(bank));
        look.text.append(at(bank));
        for (int left = bank.undo(); left != PaintBank.NONE; left = bank.undo()) {
            look.add("undo " + left);
            look.cars();
            look.painting();
        }
        look.add("buffer " + buffered(bank));
        look.add("saved " + restored(bank));
        look.cars();
        look.painting();
        return look.text.toString();
    }

    private void add(String words) {
        text.append(words).append('\n');
    }

    private void setup() {
        text.append("setting");
        for (int what = 0; what <= 9; what++) {
            text.append(' ').append(bank.setting(what));
        }
        text.append("\nchangeCost");
        for (int color = 0; color < bank.setting(0); color++) {
            text.append(' ').append(bank.changeCost(color));
        }
        add("\nkinds " + bank.kinds() + " " + bank.commonest());
    }

    private void cars() {
        int cars = bank.setting(2);
        for (int car = 0; car < cars; car++) {
            add("car " + car + " body " + bank.body(car) + " color " + bank.colorOf(car) + " bad "
                    + bank.bad(car) + " where " + bank.where(car));
        }
        for (int lane = 0; lane < bank.setting(1); lane++) {
            text.append("lane ").append(bank.room(lane)).append(':');
            for (int i = 0; i < bank.laneLength(lane); i++) {
                text.append(' ').append(bank.inLane(lane, i));
            }
            add(bank.canLeave(lane) ? " can leave" : "");
        }
        text.append("rework");
        for (int i = 0; bank.inRework(i) != PaintBank.NONE; i++) {
            text.append(' ').append(bank.inRework(i));
        }
        text.append(" ready ").append(bank.readyIn()).append(" out");
        for (int i = 0; i < bank.outCount(); i++) {
            text.append(' ').append(bank.out(i));
        }
        add(" waiting " + bank.waiting());
    }

    private void painting() {
        add("hose " + bank.hose() + " " + bank.run() + " time " + bank.time() + " changes "
                + bank.changes() + " purges " + bank.purges() + " cost " + bank.cost());
    }

    private void line() {
        painting();
        for (int car = 0; car < bank.setting(2); car++) {
            String move = bank.where(car) == 3 ? " move " + bank.move(car) : "";
            add("to out " + bank.stepsToOut(car) + " lane " + bank.laneFor(car) + move);
        }
        add("late " + bank.late() + " batch " + bank.longestBatch());
        add("rule " + bank.ruleCost(300) + " " + bank.ruleOut(300));
    }

    private void searches() {
        text.append("unload ").append(bank.unloadCost()).append(' ').append(bank.unloadChanges());
        for (int i = 0; bank.unloadLane(i) != PaintBank.NONE; i++) {
            text.append(' ').append(bank.unloadLane(i));
        }
        add(" bounds " + bank.laneBound() + " " + bank.bound());
        text.append("swap ").append(bank.waitingChanges()).append(' ').append(bank.swapChanges());
        for (int i = 0; i < bank.waiting(); i++) {
            text.append(' ').append(bank.swapColor(i));
        }
        add("");
    }

    private void log() {
        for (int i = 0; i < bank.logCount(); i++) {
            add("log " + bank.log(i, 0) + " " + bank.log(i, 1) + " " + bank.log(i, 2) + " "
                    + bank.log(i, 3));
        }
    }

    /** The latest report, without writing a new one. */
    static String reported(PaintBank bank) {
        StringBuilder bytes = new StringBuilder();
        try {
            for (int i = 0; i <= 152; i++) {
                bytes.append((char) bank.reportByte(i));
            }
        } catch (IndexOutOfBoundsException end) {
            bytes.append('.');
        }
        return bytes.toString();
    }

    /** How many bytes there are in the buffer; leaves it as it is. */
    static int buffered(PaintBank bank) {
        try {
            int length = bank.feed(0, 0, 0, 0, 0) - 20;
            return bank.truncate(length);
        } catch (IllegalStateException full) {
            return nearlyFull(bank);
        }
    }

    private static int nearlyFull(PaintBank bank) {
        for (int length = 800; length > 780; length--) {
            try {
                return bank.truncate(length);
            } catch (IllegalArgumentException beyond) {
                continue;
            }
        }
        return PaintBank.NONE;
    }

    private static String restored(PaintBank bank) {
        try {
            return "at " + bank.restore();
        } catch (IllegalStateException none) {
            return "never";
        }
    }
}
