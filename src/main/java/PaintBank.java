import java.util.Arrays;

/** A paint line with a bank of lanes; the promises of DOC.md tell what each call answers. */
public final class PaintBank {
    public static final int NONE = -1;

    private static final int MAX_BYTES = 800;
    private static final int FED_BYTES = 20;
    private static final int MAX_LETTERS = 8;
    private static final int MAX_DIGITS = 3;
    private static final int MAX_COLORS = 5;
    private static final int MAX_LANES = 4;
    private static final int MAX_CARS = 12;
    private static final int MAX_BATCH = 9;
    private static final int LAST_TIME = 9999;
    private static final int MAX_LOOK = 300;

    // A car is painted once more than it fails, and it fails at most twice.
    private static final int MAX_PAINTINGS = MAX_CARS * 3;
    private static final int LOG_SHOWN = 20;
    private static final int LOG_WIDTH = 4;
    private static final int LOG_CAR = 0;
    private static final int LOG_COLOR = 1;
    private static final int LOG_PRICE = 2;
    private static final int LOG_EVENTS = 3;

    private static final int CHANGE = 1;
    private static final int PURGE = 2;
    private static final int FAILURE = 4;

    private final Text text = new Text();
    private final Setup setup = new Setup();
    private final SetupReader reader = new SetupReader(text);
    private final Line line = new Line(setup);
    private final Line lookout = new Line(setup);
    private final Unloading unloading = new Unloading(setup, line);
    private final Exchange exchange = new Exchange(setup, line);
    private final Script script = new Script(text, line, unloading, exchange);
    private final History history = new History(setup);
    private final Report latest = new Report();
    private final Setup savedSetup = new Setup();
    private final Line savedLine = new Line(savedSetup);
    private boolean saved;

    public PaintBank() {
        saved = false;
    }

    // ---- texts

    public int feed(int a, int b, int c, int d, int e) throws IllegalStateException {
        if (text.length + FED_BYTES > MAX_BYTES) {
            throw new IllegalStateException("the buffer is full");
        }
        text.append(a);
        text.append(b);
        text.append(c);
        text.append(d);
        text.append(e);
        return text.length;
    }

    public int truncate(int n) throws IllegalArgumentException {
        if (n < 0 || n > text.length) {
            throw new IllegalArgumentException("not a length to truncate to");
        }
        text.length = n;
        return n;
    }

    public int readSetup() throws IllegalArgumentException {
        int statements = reader.readAll();
        text.length = 0;
        if (statements == NONE) {
            throw new IllegalArgumentException("the setup has an error");
        }
        setup.copyFrom(reader.draft);
        line.startOver();
        history.forget();
        return statements;
    }

    public int runScript() throws IllegalArgumentException {
        boolean good = script.readAll();
        text.length = 0;
        if (!good) {
            throw new IllegalArgumentException("the script has an error");
        }
        history.draft(line);
        int edits = line.edits;
        int done = script.play();
        // A command that is not counted may have been done in part.
        if (done > 0 || line.edits != edits) {
            history.keep();
        }
        return done;
    }

    public int errorCode() {
        return text.errorCode;
    }

    public int errorPosition() {
        return text.errorPosition;
    }

    // ---- the setup

    public int setting(int what) throws IllegalArgumentException {
        switch (what) {
            case 0: return setup.colors;
            case 1: return setup.lanes;
            case 2: return setup.cars;
            case 3: return setup.ahead;
            case 4: return setup.behind;
            case 5: return setup.batch;
            case 6: return setup.purgePrice;
            case 7: return setup.reworkRoom;
            case 8: return setup.delay;
            case 9: return setup.span;
            default: throw new IllegalArgumentException("no such setting");
        }
    }

    public int changeCost(int color) throws IndexOutOfBoundsException {
        if (color < 0 || color >= setup.colors) {
            throw new IndexOutOfBoundsException("no such color");
        }
        return setup.changePrice[color];
    }

    public int room(int lane) throws IndexOutOfBoundsException {
        checkLane(lane);
        return setup.laneRoom[lane];
    }

    public int body(int car) throws IndexOutOfBoundsException {
        checkCar(car);
        return setup.carBody[car];
    }

    public int colorOf(int car) throws IndexOutOfBoundsException {
        checkCar(car);
        return line.color[car];
    }

    public int bad(int car) throws IndexOutOfBoundsException {
        checkCar(car);
        return line.failures[car];
    }

    public int kinds() {
        int count = 0;
        for (int car = 0; car < setup.cars; car++) {
            if (line.likeFrom(car, 0) == line.likeFrom(car, car)) {
                count++;
            }
        }
        return count;
    }

    public int commonest() {
        int most = 0;
        for (int car = 0; car < setup.cars; car++) {
            most = Math.max(most, line.likeFrom(car, 0));
        }
        return most;
    }

    // ---- where cars are

    public int where(int car) throws IndexOutOfBoundsException {
        checkCar(car);
        return line.placeKind(car);
    }

    public int waiting() {
        return line.waitingCount();
    }

    public int laneLength(int lane) throws IndexOutOfBoundsException {
        checkLane(lane);
        return line.lanes[lane].count;
    }

    public int inLane(int lane, int i) throws IndexOutOfBoundsException {
        checkLane(lane);
        return line.lanes[lane].at(i);
    }

    public int inRework(int i) {
        return line.rework.at(i);
    }

    public int readyIn() {
        return line.timeToReady();
    }

    public int outCount() {
        return line.out.count;
    }

    public int out(int i) {
        return line.out.at(i);
    }

    public int move(int car) throws IndexOutOfBoundsException, IllegalStateException {
        checkCar(car);
        int place = line.out.find(car);
        if (place == NONE) {
            throw new IllegalStateException("the car is not out");
        }
        return place - car;
    }

    public int late() {
        int count = 0;
        for (int place = 0; place < line.out.count; place++) {
            if (place - line.out.at(place) > setup.behind) {
                count++;
            }
        }
        return count;
    }

    public int longestBatch() {
        return line.longestRowOut();
    }

    public boolean canLeave(int lane) throws IndexOutOfBoundsException {
        checkLane(lane);
        return line.mayLeave(lane);
    }

    // ---- painting

    public int hose() {
        return line.hose;
    }

    public int run() {
        return line.run;
    }

    public int time() {
        return line.time;
    }

    public int changes() {
        return line.changes;
    }

    public int purges() {
        return line.purges;
    }

    public int cost() {
        return line.cost;
    }

    // ---- what is done

    public int enter(int lane) throws IndexOutOfBoundsException {
        checkLane(lane);
        history.draft(line);
        return keptIfDone(line.admit(lane));
    }

    public int leave(int lane) throws IndexOutOfBoundsException {
        checkLane(lane);
        history.draft(line);
        return keptIfDone(line.paintFrom(lane));
    }

    public int back(int lane) throws IndexOutOfBoundsException {
        checkLane(lane);
        history.draft(line);
        return keptIfDone(line.comeBack(lane));
    }

    public int waits() {
        history.draft(line);
        return keptIfDone(line.passTime());
    }

    public int step() {
        history.draft(line);
        return keptIfDone(line.stepByRule());
    }

    public int unload() {
        history.draft(line);
        unloading.plan();
        int left = unloading.allowed ? unloading.carryOut() : 0;
        return keptIfDone(left == 0 ? NONE : left);
    }

    public int swap() {
        history.draft(line);
        exchange.plan();
        int changed = exchange.carryOut();
        return keptIfDone(changed == 0 ? NONE : changed);
    }

    // ---- looking ahead

    public int ruleCost(int steps) throws IllegalArgumentException {
        checkSteps(steps);
        lookAhead(steps, NONE);
        return lookout.cost;
    }

    public int ruleOut(int steps) throws IllegalArgumentException {
        checkSteps(steps);
        lookAhead(steps, NONE);
        return lookout.out.count;
    }

    public int stepsToOut(int car) throws IndexOutOfBoundsException {
        checkCar(car);
        int steps = lookAhead(MAX_LOOK, car);
        return lookout.out.find(car) == NONE ? NONE : steps;
    }

    public int laneFor(int car) throws IndexOutOfBoundsException {
        checkCar(car);
        return line.chosenLane(car);
    }

    public int unloadCost() {
        unloading.plan();
        return unloading.allowed ? unloading.price : NONE;
    }

    public int unloadChanges() {
        unloading.plan();
        return unloading.allowed ? unloading.colorChanges : NONE;
    }

    public int unloadLane(int i) {
        unloading.plan();
        return unloading.allowed ? unloading.best.at(i) : NONE;
    }

    public int laneBound() {
        return line.boundOf(line.colorsInLanes());
    }

    public int bound() {
        return line.boundOf(line.colorsNotOut());
    }

    public int waitingChanges() {
        return line.changesAmongWaiting();
    }

    public int swapChanges() {
        exchange.plan();
        return exchange.colorChanges;
    }

    public int swapColor(int i) {
        exchange.plan();
        return exchange.best.at(i);
    }

    // ---- the log of paintings

    public int logCount() {
        return Math.min(line.painted, LOG_SHOWN);
    }

    public int log(int i, int what) throws IndexOutOfBoundsException, IllegalArgumentException {
        if (i < 0 || i >= Math.min(line.painted, LOG_SHOWN)) {
            throw new IndexOutOfBoundsException("no such painting");
        }
        if (what < 0 || what >= LOG_WIDTH) {
            throw new IllegalArgumentException("no such number of a painting");
        }
        return line.paintings[(line.painted - 1 - i) * LOG_WIDTH + what];
    }

    // ---- reports, undo, a saved state

    public int report() {
        return latest.write(setup, line);
    }

    public int reportByte(int i) throws IndexOutOfBoundsException {
        if (i < 0 || i >= latest.length) {
            throw new IndexOutOfBoundsException("no such byte of a report");
        }
        return latest.bytes[i];
    }

    public int undo() {
        return history.takeBack(line) ? history.count : NONE;
    }

    public int save() {
        savedSetup.copyFrom(setup);
        savedLine.copyFrom(line);
        saved = true;
        return line.time;
    }

    public int restore() throws IllegalStateException {
        if (!saved) {
            throw new IllegalStateException("nothing was saved");
        }
        setup.copyFrom(savedSetup);
        line.copyFrom(savedLine);
        history.forget();
        return line.time;
    }

    // ---- what several calls need

    private void checkLane(int lane) {
        if (lane < 0 || lane >= setup.lanes) {
            throw new IndexOutOfBoundsException("no such lane");
        }
    }

    private void checkCar(int car) {
        if (car < 0 || car >= setup.cars) {
            throw new IndexOutOfBoundsException("no such car");
        }
    }

    private static void checkSteps(int steps) {
        if (steps < 0 || steps > MAX_LOOK) {
            throw new IllegalArgumentException("not a number of steps to look ahead");
        }
    }

    private int keptIfDone(int answer) {
        if (answer != NONE) {
            history.keep();
        }
        return answer;
    }

    /** Steps on a copy of the line until the car, if not NONE, is out; answers their number. */
    private int lookAhead(int steps, int car) {
        lookout.copyFrom(line);
        for (int made = 0; made < steps; made++) {
            if (car != NONE && lookout.out.find(car) != NONE) {
                return made;
            }
            if (lookout.stepByRule() == NONE) {
                return made;
            }
        }
        return steps;
    }

    /** The words that the two grammars know; OTHER stands for every name. */
    private enum Word {
        COLOR("color"), CHANGE("change"), LANE("lane"), CAR("car"), BODY("body"), BAD("bad"),
        WINDOW("window"), BATCH("batch"), PURGE("purge"), REWORK("rework"), DELAY("delay"),
        SPAN("span"), ENTER("enter", 0, 3), LEAVE("leave", 0, 3), BACK("back", 0, 3),
        WAIT("wait", 1, 99), STEP("step", 1, 99), UNLOAD("unload", 0, 0), SWAP("swap", 0, 0),
        REPEAT("repeat", 1, 20), OTHER("");

        private static final Word[] ALL = values();

        private final long letters;
        final boolean isCommand;
        // The limits of a command's number; 0 and 0 if it has none.
        final int least;
        final int greatest;

        Word(String spelling) {
            letters = packed(spelling);
            isCommand = false;
            least = 0;
            greatest = 0;
        }

        Word(String spelling, int least, int greatest) {
            letters = packed(spelling);
            isCommand = true;
            this.least = least;
            this.greatest = greatest;
        }

        /** Eight letters fill a long, a byte each, so that words can be compared as numbers. */
        private static long packed(String spelling) {
            long letters = 0;
            for (int i = 0; i < spelling.length(); i++) {
                letters = letters << 8 | spelling.charAt(i);
            }
            return letters;
        }

        static Word spelled(long letters) {
            for (int i = 0; i < ALL.length; i++) {
                if (ALL[i].letters == letters) {
                    return ALL[i];
                }
            }
            return OTHER;
        }
    }

    /** The buffer, its tokens one by one, and the first error that its reader found. */
    private static final class Text {
        static final int END = 0;
        static final int WORD = 1;
        static final int NUMBER = 2;
        static final int SEMICOLON = 3;
        static final int OPEN = 4;
        static final int CLOSE = 5;
        static final int INVALID = 6;

        static final int NOT_ALLOWED = 1;
        static final int OUT_OF_RANGE = 2;
        static final int TWICE = 3;
        static final int TOO_DEEP = 3;
        static final int UNKNOWN_COLOR = 4;
        static final int TOO_MANY = 5;

        final byte[] bytes = new byte[MAX_BYTES];
        int length;
        int errorCode;
        int errorPosition = NONE;

        private int at;
        int kind;
        int start;
        int number;
        long letters;
        Word word = Word.OTHER;

        void append(int four) {
            for (int shift = 24; shift >= 0; shift -= 8) {
                if (length < bytes.length) {
                    bytes[length] = (byte) (four >> shift);
                    length++;
                }
            }
        }

        void rewind() {
            at = 0;
            errorCode = 0;
            errorPosition = NONE;
        }

        /** Tells the error at the present token; answers false, for the reader to hand on. */
        boolean fail(int code) {
            errorCode = code;
            errorPosition = start;
            return false;
        }

        boolean takeSemicolon() {
            advance();
            return kind == SEMICOLON || fail(NOT_ALLOWED);
        }

        boolean takeOpening() {
            advance();
            return kind == OPEN || fail(NOT_ALLOWED);
        }

        boolean takeWord(Word wanted) {
            advance();
            return kind == WORD && word == wanted || fail(NOT_ALLOWED);
        }

        /** Takes the next token only if it is this word. */
        boolean takeIfNext(Word wanted) {
            int before = at;
            advance();
            if (kind == WORD && word == wanted) {
                return true;
            }
            at = before;
            return false;
        }

        boolean takeNumber(int least, int greatest) {
            advance();
            if (kind != NUMBER) {
                return fail(NOT_ALLOWED);
            }
            return number >= least && number <= greatest || fail(OUT_OF_RANGE);
        }

        void advance() {
            while (at < length && isBlank(bytes[at])) {
                at++;
            }
            start = at;
            if (at >= length) {
                kind = END;
            } else if (isLetter(bytes[at])) {
                readWord();
            } else if (isDigit(bytes[at])) {
                readNumber();
            } else {
                kind = kindOfMark(bytes[at]);
                at++;
            }
        }

        private void readWord() {
            letters = 0;
            while (at < length && isLetter(bytes[at])) {
                letters = letters << 8 | bytes[at];
                at++;
            }
            kind = at - start <= MAX_LETTERS ? WORD : INVALID;
            word = Word.spelled(letters);
        }

        private void readNumber() {
            number = 0;
            while (at < length && isDigit(bytes[at])) {
                number = number * 10 + (bytes[at] - '0');
                at++;
            }
            kind = at - start <= MAX_DIGITS ? NUMBER : INVALID;
        }

        private static int kindOfMark(int mark) {
            switch (mark) {
                case ';': return SEMICOLON;
                case '(': return OPEN;
                case ')': return CLOSE;
                default: return INVALID;
            }
        }

        private static boolean isBlank(byte sign) {
            return sign == ' ' || sign == '\n';
        }

        private static boolean isLetter(byte sign) {
            return sign >= 'a' && sign <= 'z';
        }

        private static boolean isDigit(byte sign) {
            return sign >= '0' && sign <= '9';
        }
    }

    /** What a setup defines. */
    private static final class Setup {
        int colors;
        int lanes;
        int cars;
        int ahead;
        int behind;
        int batch;
        int purgePrice;
        int reworkRoom;
        int delay;
        int span;
        final long[] colorName = new long[MAX_COLORS];
        final int[] changePrice = new int[MAX_COLORS];
        final int[] laneRoom = new int[MAX_LANES];
        final int[] carColor = new int[MAX_CARS];
        final int[] carBody = new int[MAX_CARS];
        final int[] carBad = new int[MAX_CARS];

        Setup() {
            clear();
        }

        void clear() {
            colors = 0;
            lanes = 0;
            cars = 0;
            ahead = 11;
            behind = 11;
            batch = MAX_BATCH;
            purgePrice = 0;
            reworkRoom = 1;
            delay = 3;
            span = 2;
        }

        void copyFrom(Setup other) {
            colors = other.colors;
            lanes = other.lanes;
            cars = other.cars;
            ahead = other.ahead;
            behind = other.behind;
            batch = other.batch;
            purgePrice = other.purgePrice;
            reworkRoom = other.reworkRoom;
            delay = other.delay;
            span = other.span;
            System.arraycopy(other.colorName, 0, colorName, 0, MAX_COLORS);
            System.arraycopy(other.changePrice, 0, changePrice, 0, MAX_COLORS);
            System.arraycopy(other.laneRoom, 0, laneRoom, 0, MAX_LANES);
            System.arraycopy(other.carColor, 0, carColor, 0, MAX_CARS);
            System.arraycopy(other.carBody, 0, carBody, 0, MAX_CARS);
            System.arraycopy(other.carBad, 0, carBad, 0, MAX_CARS);
        }

        int bodyOfCar(int car) {
            return car < 0 || car >= MAX_CARS ? NONE : carBody[car];
        }

        long nameOfColor(int color) {
            return color < 0 || color >= MAX_COLORS ? 0 : colorName[color];
        }

        int colorNamed(long name) {
            for (int color = 0; color < colors; color++) {
                if (colorName[color] == name) {
                    return color;
                }
            }
            return NONE;
        }

        /** What painting a car brings about, as bits, for a hose with this color and run. */
        int eventsOf(int hose, int run, int color) {
            if (hose == NONE) {
                return 0;
            }
            if (hose != color) {
                return CHANGE;
            }
            return run >= batch ? PURGE : 0;
        }

        int priceOf(int events, int color) {
            if ((events & CHANGE) != 0) {
                return color < 0 || color >= MAX_COLORS ? 0 : changePrice[color];
            }
            return (events & PURGE) != 0 ? purgePrice : 0;
        }

        /** A hose without a color has a run of 0, so that its first car makes it 1. */
        static int runAfter(int events, int run) {
            return events == 0 ? run + 1 : 1;
        }
    }

    /** Reads a setup into a draft, so that a text with an error leaves the true one alone. */
    private static final class SetupReader {
        final Setup draft = new Setup();
        private final Text text;
        private boolean windowSeen;
        private boolean batchSeen;
        private boolean reworkSeen;
        private boolean spanSeen;

        SetupReader(Text text) {
            this.text = text;
        }

        /** Answers the number of statements, NONE if there is an error. */
        int readAll() {
            draft.clear();
            windowSeen = false;
            batchSeen = false;
            reworkSeen = false;
            spanSeen = false;
            text.rewind();
            for (int statements = 0; statements <= MAX_BYTES; statements++) {
                text.advance();
                if (text.kind == Text.END) {
                    return statements;
                }
                if (!readStatement() || !text.takeSemicolon()) {
                    return NONE;
                }
            }
            return NONE;
        }

        private boolean readStatement() {
            if (text.kind != Text.WORD) {
                return text.fail(Text.NOT_ALLOWED);
            }
            switch (text.word) {
                case COLOR: return readColor();
                case LANE: return readLane();
                case CAR: return readCar();
                case WINDOW: return readWindow();
                case BATCH: return readBatch();
                case REWORK: return readRework();
                case SPAN: return readSpan();
                default: return text.fail(Text.NOT_ALLOWED);
            }
        }

        private boolean readColor() {
            int color = draft.colors;
            if (color >= MAX_COLORS) {
                return text.fail(Text.TOO_MANY);
            }
            if (!text.takeWord(Word.OTHER)) {
                return false;
            }
            if (draft.colorNamed(text.letters) != NONE) {
                return text.fail(Text.TWICE);
            }
            draft.colorName[color] = text.letters;
            if (!text.takeWord(Word.CHANGE) || !text.takeNumber(0, 99)) {
                return false;
            }
            draft.changePrice[color] = text.number;
            draft.colors = color + 1;
            return true;
        }

        private boolean readLane() {
            int lane = draft.lanes;
            if (lane >= MAX_LANES) {
                return text.fail(Text.TOO_MANY);
            }
            if (!text.takeNumber(1, 6)) {
                return false;
            }
            draft.laneRoom[lane] = text.number;
            draft.lanes = lane + 1;
            return true;
        }

        private boolean readCar() {
            int car = draft.cars;
            if (car >= MAX_CARS) {
                return text.fail(Text.TOO_MANY);
            }
            if (!text.takeWord(Word.OTHER)) {
                return false;
            }
            int color = draft.colorNamed(text.letters);
            if (color == NONE) {
                return text.fail(Text.UNKNOWN_COLOR);
            }
            draft.carColor[car] = color;
            if (!text.takeWord(Word.BODY) || !text.takeNumber(0, 3)) {
                return false;
            }
            draft.carBody[car] = text.number;
            draft.carBad[car] = 0;
            if (text.takeIfNext(Word.BAD)) {
                if (!text.takeNumber(0, 2)) {
                    return false;
                }
                draft.carBad[car] = text.number;
            }
            draft.cars = car + 1;
            return true;
        }

        private boolean readWindow() {
            if (windowSeen) {
                return text.fail(Text.TWICE);
            }
            windowSeen = true;
            if (!text.takeNumber(0, 11)) {
                return false;
            }
            draft.ahead = text.number;
            if (!text.takeNumber(0, 11)) {
                return false;
            }
            draft.behind = text.number;
            return true;
        }

        private boolean readBatch() {
            if (batchSeen) {
                return text.fail(Text.TWICE);
            }
            batchSeen = true;
            if (!text.takeNumber(1, MAX_BATCH)) {
                return false;
            }
            draft.batch = text.number;
            if (!text.takeWord(Word.PURGE) || !text.takeNumber(0, 99)) {
                return false;
            }
            draft.purgePrice = text.number;
            return true;
        }

        private boolean readRework() {
            if (reworkSeen) {
                return text.fail(Text.TWICE);
            }
            reworkSeen = true;
            if (!text.takeNumber(0, 3)) {
                return false;
            }
            draft.reworkRoom = text.number;
            if (!text.takeWord(Word.DELAY) || !text.takeNumber(0, 9)) {
                return false;
            }
            draft.delay = text.number;
            return true;
        }

        private boolean readSpan() {
            if (spanSeen) {
                return text.fail(Text.TWICE);
            }
            spanSeen = true;
            if (!text.takeNumber(0, 11)) {
                return false;
            }
            draft.span = text.number;
            return true;
        }
    }

    /** A row of at most as many numbers as there can be cars. */
    private static final class Row {
        private final int[] numbers = new int[MAX_CARS];
        int count;

        int at(int i) {
            return i < 0 || i >= count ? NONE : numbers[i];
        }

        int last() {
            return count > 0 ? numbers[count - 1] : NONE;
        }

        int find(int number) {
            for (int i = 0; i < count; i++) {
                if (numbers[i] == number) {
                    return i;
                }
            }
            return NONE;
        }

        void add(int number) {
            if (count < numbers.length) {
                numbers[count] = number;
                count++;
            }
        }

        void dropFirst() {
            if (count > 0) {
                count--;
                System.arraycopy(numbers, 1, numbers, 0, count);
            }
        }

        void copyFrom(Row other) {
            count = other.count;
            System.arraycopy(other.numbers, 0, numbers, 0, count);
        }
    }

    /** Where all cars are, what was painted, and what the line and the rule do with them. */
    private static final class Line {
        private final Setup setup;
        final int[] color = new int[MAX_CARS];
        final int[] failures = new int[MAX_CARS];
        final Row[] lanes = new Row[MAX_LANES];
        final Row rework = new Row();
        final Row readyTimes = new Row();
        final Row out = new Row();
        // Cars enter in their sequence, so that those from this number on still wait.
        int entered;
        int hose = NONE;
        int run;
        int time;
        int changes;
        int purges;
        int cost;
        final int[] paintings = new int[MAX_PAINTINGS * LOG_WIDTH];
        int painted;
        // Counts what happened to this object: a plan made at the same count still holds.
        int edits;

        Line(Setup setup) {
            this.setup = setup;
            for (int lane = 0; lane < MAX_LANES; lane++) {
                lanes[lane] = new Row();
            }
        }

        void startOver() {
            System.arraycopy(setup.carColor, 0, color, 0, MAX_CARS);
            System.arraycopy(setup.carBad, 0, failures, 0, MAX_CARS);
            for (int lane = 0; lane < MAX_LANES; lane++) {
                lanes[lane].count = 0;
            }
            rework.count = 0;
            readyTimes.count = 0;
            out.count = 0;
            entered = 0;
            hose = NONE;
            run = 0;
            time = 0;
            changes = 0;
            purges = 0;
            cost = 0;
            painted = 0;
            edits++;
        }

        void copyFrom(Line other) {
            System.arraycopy(other.color, 0, color, 0, MAX_CARS);
            System.arraycopy(other.failures, 0, failures, 0, MAX_CARS);
            for (int lane = 0; lane < MAX_LANES; lane++) {
                lanes[lane].copyFrom(other.lanes[lane]);
            }
            rework.copyFrom(other.rework);
            readyTimes.copyFrom(other.readyTimes);
            out.copyFrom(other.out);
            entered = other.entered;
            hose = other.hose;
            run = other.run;
            time = other.time;
            changes = other.changes;
            purges = other.purges;
            cost = other.cost;
            System.arraycopy(other.paintings, 0, paintings, 0, paintings.length);
            painted = other.painted;
            edits++;
        }

        // ---- what is where

        int waitingCount() {
            return setup.cars - entered;
        }

        int placeKind(int car) {
            if (car >= entered) {
                return 0;
            }
            if (out.find(car) != NONE) {
                return 3;
            }
            return rework.find(car) != NONE ? 2 : 1;
        }

        int carsInLanes() {
            int count = 0;
            for (int lane = 0; lane < setup.lanes; lane++) {
                count += lanes[lane].count;
            }
            return count;
        }

        boolean hasRoom(int lane) {
            return lane >= 0 && lane < setup.lanes && lanes[lane].count < setup.laneRoom[lane];
        }

        int colorOfCar(int car) {
            return car < 0 || car >= MAX_CARS ? NONE : color[car];
        }

        /** Gives a car another job; answers whether its color is another one then. */
        boolean recolor(int car, int job) {
            if (car < 0 || car >= MAX_CARS || color[car] == job) {
                return false;
            }
            color[car] = job;
            edits++;
            return true;
        }

        /** How many cars from a number on are of the same kind as a car. */
        int likeFrom(int car, int first) {
            if (car < 0 || car >= MAX_CARS || first < 0) {
                return 0;
            }
            int count = 0;
            for (int other = first; other < setup.cars; other++) {
                if (color[other] == color[car] && setup.carBody[other] == setup.carBody[car]) {
                    count++;
                }
            }
            return count;
        }

        int longestRowOut() {
            int longest = 0;
            int row = 0;
            for (int place = 0; place < out.count; place++) {
                boolean same = colorOfCar(out.at(place)) == colorOfCar(out.at(place - 1));
                row = same ? row + 1 : 1;
                longest = Math.max(longest, row);
            }
            return longest;
        }

        int changesAmongWaiting() {
            int count = 0;
            for (int car = entered + 1; car < setup.cars; car++) {
                if (color[car] != color[car - 1]) {
                    count++;
                }
            }
            return count;
        }

        int timeToReady() {
            return rework.count == 0 ? NONE : Math.max(0, readyTimes.at(0) - time);
        }

        // ---- what can be done

        int admit(int lane) {
            if (entered >= setup.cars || !hasRoom(lane)) {
                return NONE;
            }
            int car = entered;
            lanes[lane].add(car);
            entered++;
            edits++;
            return car;
        }

        boolean mayLeave(int lane) {
            if (lane < 0 || lane >= setup.lanes || time >= LAST_TIME) {
                return false;
            }
            int car = lanes[lane].at(0);
            if (car < 0 || car >= MAX_CARS) {
                return false;
            }
            if (failures[car] > 0) {
                return rework.count < setup.reworkRoom;
            }
            return car - out.count <= setup.ahead;
        }

        int paintFrom(int lane) {
            if (!mayLeave(lane)) {
                return NONE;
            }
            int car = lanes[lane].at(0);
            if (car < 0 || car >= MAX_CARS) {
                return NONE;
            }
            lanes[lane].dropFirst();
            boolean fails = failures[car] > 0;
            paint(car, fails);
            if (fails) {
                failures[car]--;
                rework.add(car);
                readyTimes.add(time + setup.delay);
            } else {
                out.add(car);
            }
            edits++;
            return car;
        }

        private void paint(int car, boolean fails) {
            int events = setup.eventsOf(hose, run, color[car]);
            int price = setup.priceOf(events, color[car]);
            hose = color[car];
            run = Setup.runAfter(events, run);
            cost += price;
            if ((events & CHANGE) != 0) {
                changes++;
            }
            if ((events & PURGE) != 0) {
                purges++;
            }
            time++;
            note(car, price, fails ? events | FAILURE : events);
        }

        private void note(int car, int price, int events) {
            if (painted >= MAX_PAINTINGS) {
                return;
            }
            int row = painted * LOG_WIDTH;
            paintings[row + LOG_CAR] = car;
            paintings[row + LOG_COLOR] = color[car];
            paintings[row + LOG_PRICE] = price;
            paintings[row + LOG_EVENTS] = events;
            painted++;
        }

        boolean firstIsReady() {
            return rework.count > 0 && time >= readyTimes.at(0);
        }

        int comeBack(int lane) {
            if (!firstIsReady() || !hasRoom(lane)) {
                return NONE;
            }
            int car = rework.at(0);
            rework.dropFirst();
            readyTimes.dropFirst();
            lanes[lane].add(car);
            edits++;
            return car;
        }

        int passTime() {
            if (time >= LAST_TIME) {
                return NONE;
            }
            time++;
            edits++;
            return time;
        }

        // ---- the rule

        int stepByRule() {
            if (firstIsReady() && comeBack(chosenLane(rework.at(0))) != NONE) {
                return 0;
            }
            if (entered < setup.cars && admit(chosenLane(entered)) != NONE) {
                return 1;
            }
            if (paintFrom(chosenToLeave()) != NONE) {
                return 2;
            }
            return rework.count > 0 && passTime() != NONE ? 3 : NONE;
        }

        int chosenLane(int car) {
            int emptiest = NONE;
            int fewest = MAX_CARS;
            for (int lane = 0; lane < setup.lanes; lane++) {
                if (hasRoom(lane)) {
                    int length = lanes[lane].count;
                    if (length > 0 && colorOfCar(lanes[lane].last()) == colorOfCar(car)) {
                        return lane;
                    }
                    if (length < fewest) {
                        fewest = length;
                        emptiest = lane;
                    }
                }
            }
            return emptiest;
        }

        private int chosenToLeave() {
            int earliest = NONE;
            int least = MAX_CARS;
            for (int lane = 0; lane < setup.lanes; lane++) {
                if (mayLeave(lane)) {
                    int car = lanes[lane].at(0);
                    if (colorOfCar(car) == hose) {
                        return lane;
                    }
                    if (car < least) {
                        least = car;
                        earliest = lane;
                    }
                }
            }
            return earliest;
        }

        // ---- bounds; a set of colors is a number with a bit for each

        int colorsInLanes() {
            int set = 0;
            for (int lane = 0; lane < setup.lanes; lane++) {
                for (int i = 0; i < lanes[lane].count; i++) {
                    set |= 1 << colorOfCar(lanes[lane].at(i));
                }
            }
            return set;
        }

        int colorsNotOut() {
            int set = 0;
            for (int car = 0; car < setup.cars; car++) {
                if (out.find(car) == NONE) {
                    set |= 1 << color[car];
                }
            }
            return set;
        }

        int boundOf(int set) {
            int sum = 0;
            int greatest = 0;
            for (int each = 0; each < setup.colors; each++) {
                if ((set >> each & 1) != 0 && each != hose) {
                    sum += setup.changePrice[each];
                    greatest = Math.max(greatest, setup.changePrice[each]);
                }
            }
            return hose == NONE ? sum - greatest : sum;
        }
    }

    /** The search for the best unloading, and the carrying out of what it found. */
    private static final class Unloading {
        private static final int UNKNOWN = -1;
        private static final int IMPOSSIBLE = 1 << 20;
        // A worth is a price and, below it, a number of changes, which is at most 12.
        private static final int PER_PRICE = 16;
        // Twelve cars in four lanes can be taken in part in at most 4*4*4*4 ways.
        private static final int MAX_POSITIONS = 256;

        private final Setup setup;
        private final Line line;
        private final int[] least = new int[MAX_POSITIONS * MAX_COLORS * MAX_BATCH];
        private final byte[] choice = new byte[MAX_POSITIONS * MAX_COLORS * MAX_BATCH];
        private final int[] taken = new int[MAX_LANES];
        private final int[] weight = new int[MAX_LANES];
        private int total;
        private int plannedAt = -1;
        final Row best = new Row();
        boolean allowed;
        // Whether at the latest carrying out all cars left, and none failed.
        boolean completed;
        int price;
        int colorChanges;

        Unloading(Setup setup, Line line) {
            this.setup = setup;
            this.line = line;
        }

        void plan() {
            if (plannedAt == line.edits) {
                return;
            }
            plannedAt = line.edits;
            total = line.carsInLanes();
            forgetWorths(weighLanes());
            int worth = worthOfRest(0, 0, line.hose, line.run);
            allowed = worth < IMPOSSIBLE;
            price = worth / PER_PRICE;
            colorChanges = worth % PER_PRICE;
            best.count = 0;
            if (allowed) {
                collectLanes();
            }
        }

        /**
         * Weights by which the sum over the cars taken, the position, tells how many of each lane
         * they are; answers how many positions there are.
         */
        private int weighLanes() {
            int product = 1;
            for (int lane = 0; lane < MAX_LANES; lane++) {
                taken[lane] = 0;
                weight[lane] = product;
                product *= line.lanes[lane].count + 1;
            }
            return product;
        }

        private void forgetWorths(int positions) {
            int keys = Math.min(positions * MAX_COLORS * MAX_BATCH, least.length);
            for (int key = 0; key < keys; key++) {
                least[key] = UNKNOWN;
            }
        }

        /** Position 0 comes up only at the start, where the hose may have no color. */
        private int keyOf(int position, int hose, int run) {
            int key = position == 0 ? 0 : (position * MAX_COLORS + hose) * MAX_BATCH + run - 1;
            return Math.min(Math.max(key, 0), least.length - 1);
        }

        /** The least worth of letting the others leave when so many cars have left. */
        private int worthOfRest(int left, int position, int hose, int run) {
            if (left >= total) {
                return 0;
            }
            int key = keyOf(position, hose, run);
            if (least[key] != UNKNOWN) {
                return least[key];
            }
            int found = IMPOSSIBLE;
            for (int lane = 0; lane < setup.lanes; lane++) {
                int worth = worthThrough(lane, left, position, hose, run);
                // Only what is truly less replaces a lower lane.
                if (worth < found) {
                    found = worth;
                    choice[key] = (byte) lane;
                }
            }
            least[key] = found;
            return found;
        }

        private int worthThrough(int lane, int left, int position, int hose, int run) {
            int car = line.lanes[lane].at(taken[lane]);
            if (car < 0 || car >= MAX_CARS || !fitsOut(car, line.out.count + left)) {
                return IMPOSSIBLE;
            }
            int color = line.color[car];
            int events = setup.eventsOf(hose, run, color);
            int worth = setup.priceOf(events, color) * PER_PRICE + (events == CHANGE ? 1 : 0);
            int next = position + weight[lane];
            taken[lane]++;
            worth += worthOfRest(left + 1, next, color, Setup.runAfter(events, run));
            taken[lane]--;
            return Math.min(worth, IMPOSSIBLE);
        }

        private boolean fitsOut(int car, int place) {
            return place >= car - setup.ahead && place <= car + setup.behind;
        }

        private void collectLanes() {
            int position = 0;
            int hose = line.hose;
            int run = line.run;
            for (int left = 0; left < total; left++) {
                int lane = choice[keyOf(position, hose, run)];
                if (lane < 0 || lane >= MAX_LANES) {
                    return;
                }
                int car = line.lanes[lane].at(taken[lane]);
                if (car < 0 || car >= MAX_CARS) {
                    return;
                }
                int color = line.color[car];
                best.add(lane);
                taken[lane]++;
                position += weight[lane];
                run = Setup.runAfter(setup.eventsOf(hose, run, color), run);
                hose = color;
            }
        }

        /** Lets the cars leave by the plan, until one cannot or fails; answers how many did. */
        int carryOut() {
            completed = false;
            for (int left = 0; left < best.count; left++) {
                int car = line.paintFrom(best.at(left));
                if (car == NONE) {
                    return left;
                }
                if (line.out.last() != car) {
                    return left + 1;
                }
            }
            completed = true;
            return best.count;
        }
    }

    /** The search for the best exchange of jobs among the cars that wait. */
    private static final class Exchange {
        private static final int UNKNOWN = -1;
        // For each color four bits of a number: the fewest changes, at most 11, or IMPOSSIBLE.
        private static final int BITS = 4;
        private static final int IMPOSSIBLE = 15;

        private final Setup setup;
        private final Line line;
        private final int[] memo = new int[1 << MAX_CARS];
        // For each place and color, a bit for each job of this color that suits the body there.
        private final int[] jobsFor = new int[MAX_CARS * MAX_COLORS];
        private int count;
        private int plannedAt = -1;
        final Row best = new Row();
        int colorChanges;

        Exchange(Setup setup, Line line) {
            this.setup = setup;
            this.line = line;
        }

        void plan() {
            if (plannedAt == line.edits) {
                return;
            }
            plannedAt = line.edits;
            count = Math.min(line.waitingCount(), MAX_CARS);
            forgetWays();
            Arrays.fill(jobsFor, 0);
            for (int place = 0; place < count; place++) {
                for (int job = 0; job < count; job++) {
                    offerJob(place, job);
                }
            }
            colorChanges = fewestOfAll(waysFrom(0, 0));
            best.count = 0;
            collectColors();
        }

        private void offerJob(int place, int job) {
            int color = line.colorOfCar(line.entered + job);
            int body = setup.bodyOfCar(line.entered + job);
            int slot = place * MAX_COLORS + color;
            boolean suits = color != NONE && body == setup.bodyOfCar(line.entered + place);
            if (suits && slot >= 0 && slot < jobsFor.length) {
                jobsFor[slot] |= 1 << job;
            }
        }

        private void forgetWays() {
            int sets = Math.min(1 << count, memo.length);
            for (int used = 0; used < sets; used++) {
                memo[used] = UNKNOWN;
            }
        }

        /** The fewest changes from a place on, for each color there, when these jobs are used. */
        private int waysFrom(int place, int used) {
            if (place >= count || used < 0 || used >= memo.length) {
                return 0;
            }
            if (memo[used] != UNKNOWN) {
                return memo[used];
            }
            int ways = 0;
            for (int color = 0; color < MAX_COLORS; color++) {
                int job = firstJob(color, place, used);
                int fewest = IMPOSSIBLE;
                if (job != NONE) {
                    int behind = waysFrom(place + 1, used | 1 << job);
                    fewest = Math.min(fewestOf(behind, color), fewestOfAll(behind) + 1);
                }
                ways |= fewest << color * BITS;
            }
            memo[used] = ways;
            return ways;
        }

        /**
         * Of equal jobs the first one is due first: what can be done with another one of them can
         * be done with it, too. If it is too far away, the color cannot be had here.
         */
        private int firstJob(int color, int place, int used) {
            if (color < 0 || color >= MAX_COLORS || place < 0 || place >= MAX_CARS) {
                return NONE;
            }
            int free = jobsFor[place * MAX_COLORS + color] & ~used;
            if (free == 0) {
                return NONE;
            }
            int job = Integer.bitCount((free & -free) - 1);
            return Math.abs(job - place) <= setup.span ? job : NONE;
        }

        private static int fewestOf(int ways, int color) {
            return ways >> color * BITS & IMPOSSIBLE;
        }

        private static int fewestOfAll(int ways) {
            int fewest = IMPOSSIBLE;
            for (int color = 0; color < MAX_COLORS; color++) {
                fewest = Math.min(fewest, ways >> color * BITS & IMPOSSIBLE);
            }
            return fewest;
        }

        private void collectColors() {
            int used = 0;
            int fewest = colorChanges;
            for (int place = 0; place < count; place++) {
                int ways = waysFrom(place, used);
                int color = lowestColor(ways, best.last(), fewest);
                int job = firstJob(color, place, used);
                if (job == NONE) {
                    return;
                }
                best.add(color);
                used |= 1 << job;
                fewest = fewestOf(ways, color);
            }
        }

        /** The lowest color by which no more changes come, that from the color before included. */
        private static int lowestColor(int ways, int before, int fewest) {
            for (int color = 0; color < MAX_COLORS; color++) {
                int change = before == NONE || before == color ? 0 : 1;
                if (fewestOf(ways, color) + change == fewest) {
                    return color;
                }
            }
            return NONE;
        }

        /** Gives the cars their new colors; answers how many have another one then. */
        int carryOut() {
            int changed = 0;
            for (int place = 0; place < best.count; place++) {
                if (line.recolor(line.entered + place, best.at(place))) {
                    changed++;
                }
            }
            return changed;
        }
    }

    /** The commands of a script, and the playing of them. */
    private static final class Script {
        private static final int MAX_COMMANDS = 40;
        private static final int MAX_DONE = 100;
        private static final int MAX_NESTING = 2;
        // Far above what two nested repeats of 20 times can need.
        private static final int MAX_TURNS = 1000000;

        private final Text text;
        private final Line line;
        private final Unloading unloading;
        private final Exchange exchange;
        // Each "repeat" has a closing bracket, too, which is kept as the word OTHER.
        private final Word[] words = new Word[2 * MAX_COMMANDS];
        // The number of a command; of a closing bracket the index of its "repeat".
        private final int[] numbers = new int[2 * MAX_COMMANDS];
        private final int[] timesLeft = new int[2 * MAX_COMMANDS];
        private final int[] openRepeats = new int[MAX_NESTING];
        private int nesting;
        private int commands;
        private int size;

        Script(Text text, Line line, Unloading unloading, Exchange exchange) {
            this.text = text;
            this.line = line;
            this.unloading = unloading;
            this.exchange = exchange;
            for (int i = 0; i < words.length; i++) {
                words[i] = Word.OTHER;
            }
        }

        boolean readAll() {
            text.rewind();
            nesting = 0;
            commands = 0;
            size = 0;
            for (int parts = 0; parts <= MAX_BYTES; parts++) {
                text.advance();
                if (text.kind == Text.END) {
                    return nesting == 0 || text.fail(Text.NOT_ALLOWED);
                }
                boolean good = text.kind == Text.CLOSE ? closeRepeat() : readCommand();
                if (!good) {
                    return false;
                }
            }
            return false;
        }

        private boolean closeRepeat() {
            if (nesting <= 0) {
                return text.fail(Text.NOT_ALLOWED);
            }
            nesting--;
            add(Word.OTHER, openRepeats[nesting]);
            return text.takeSemicolon();
        }

        private boolean readCommand() {
            Word word = text.word;
            if (text.kind != Text.WORD || !word.isCommand) {
                return text.fail(Text.NOT_ALLOWED);
            }
            if (word == Word.REPEAT && nesting >= MAX_NESTING) {
                return text.fail(Text.TOO_DEEP);
            }
            if (commands >= MAX_COMMANDS) {
                return text.fail(Text.TOO_MANY);
            }
            commands++;
            if (word.greatest > 0 && !text.takeNumber(word.least, word.greatest)) {
                return false;
            }
            add(word, text.number);
            if (word == Word.REPEAT) {
                openRepeats[nesting] = size - 1;
                nesting++;
                return text.takeOpening();
            }
            return text.takeSemicolon();
        }

        private void add(Word word, int number) {
            if (size < words.length) {
                words[size] = word;
                numbers[size] = number;
                size++;
            }
        }

        /** Answers the number of commands that were done. */
        int play() {
            int done = 0;
            int at = 0;
            for (int turn = 0; turn < MAX_TURNS && at < size; turn++) {
                if (words[at] == Word.REPEAT) {
                    timesLeft[at] = numbers[at];
                    at++;
                } else if (words[at] == Word.OTHER) {
                    at = behindBracket(at);
                } else {
                    if (done >= MAX_DONE || !carryOut(words[at], numbers[at])) {
                        return done;
                    }
                    done++;
                    at++;
                }
            }
            return done;
        }

        private int behindBracket(int at) {
            int opening = numbers[at];
            if (opening < 0 || opening >= at) {
                return at + 1;
            }
            timesLeft[opening]--;
            return timesLeft[opening] > 0 ? opening + 1 : at + 1;
        }

        private boolean carryOut(Word command, int number) {
            switch (command) {
                case ENTER: return line.admit(number) != NONE;
                case LEAVE: return line.paintFrom(number) != NONE;
                case BACK: return line.comeBack(number) != NONE;
                case WAIT: return waitTimes(number);
                case STEP: return stepTimes(number);
                case UNLOAD:
                    unloading.plan();
                    if (unloading.allowed) {
                        unloading.carryOut();
                    }
                    return unloading.allowed && unloading.completed;
                case SWAP:
                    exchange.plan();
                    exchange.carryOut();
                    return true;
                default: return false;
            }
        }

        private boolean waitTimes(int times) {
            for (int i = 0; i < times; i++) {
                if (line.passTime() == NONE) {
                    return false;
                }
            }
            return true;
        }

        private boolean stepTimes(int times) {
            for (int i = 0; i < times; i++) {
                if (line.stepByRule() == NONE) {
                    return false;
                }
            }
            return true;
        }
    }

    /** The latest states that calls can be undone to. */
    private static final class History {
        private static final int MAX_KEPT = 6;

        // One more than are kept, so that a draft that is not kept overwrites none of them.
        private final Line[] states = new Line[MAX_KEPT + 1];
        private int next;
        int count;

        History(Setup setup) {
            for (int i = 0; i < states.length; i++) {
                states[i] = new Line(setup);
            }
        }

        /** Notes how the line is before a call that may do something. */
        void draft(Line line) {
            states[next].copyFrom(line);
        }

        void keep() {
            next = (next + 1) % (MAX_KEPT + 1);
            count = Math.min(count + 1, MAX_KEPT);
        }

        boolean takeBack(Line line) {
            if (count == 0) {
                return false;
            }
            next = (next + MAX_KEPT) % (MAX_KEPT + 1);
            count--;
            line.copyFrom(states[next]);
            return true;
        }

        void forget() {
            count = 0;
        }
    }

    /** The latest report. */
    private static final class Report {
        // Four lines of lanes, the line of those out, and twelve cars of at most ten bytes.
        private static final int MAX_REPORT = 4 * 7 + 4 + MAX_CARS * 10;

        final byte[] bytes = new byte[MAX_REPORT];
        int length;

        int write(Setup setup, Line line) {
            length = 0;
            for (int lane = 0; lane < setup.lanes; lane++) {
                addText("lane ");
                add('0' + lane);
                addCars(setup, line, line.lanes[lane]);
            }
            addText("out");
            addCars(setup, line, line.out);
            return length;
        }

        private void addCars(Setup setup, Line line, Row cars) {
            for (int i = 0; i < cars.count; i++) {
                int car = cars.at(i);
                add(' ');
                addLetters(setup.nameOfColor(line.colorOfCar(car)));
                add('0' + setup.bodyOfCar(car));
            }
            add('\n');
        }

        private void addText(String words) {
            for (int i = 0; i < words.length(); i++) {
                add(words.charAt(i));
            }
        }

        private void addLetters(long letters) {
            for (int shift = 56; shift >= 0; shift -= 8) {
                int letter = (int) (letters >> shift & 255);
                if (letter != 0) {
                    add(letter);
                }
            }
        }

        private void add(int sign) {
            if (length < bytes.length) {
                bytes[length] = (byte) sign;
                length++;
            }
        }
    }
}
