import java.nio.charset.StandardCharsets;
import java.util.ArrayDeque;
import java.util.ArrayList;
import java.util.Arrays;
import java.util.Deque;
import java.util.HashMap;
import java.util.HashSet;
import java.util.List;
import java.util.Map;
import java.util.Set;
import java.util.TreeMap;

/**
 * The document once more, in its plainest and slowest form: searches try everything. It shares no
 * code with PaintBank, and bears the same method names, so that a test can compare the two.
 */
final class Model {
    static final int NONE = -1;

    /** What a setup defines. */
    static final class Plant {
        final List<String> colorNames = new ArrayList<>();
        final List<Integer> prices = new ArrayList<>();
        final List<Integer> rooms = new ArrayList<>();
        final List<Integer> colors = new ArrayList<>();
        final List<Integer> bodies = new ArrayList<>();
        final List<Integer> bads = new ArrayList<>();
        int ahead = 11;
        int back = 11;
        int batch = 9;
        int purge = 0;
        int reworkRoom = 1;
        int delay = 3;
        int span = 2;
    }

    /** All that the line's doings change. */
    static final class State {
        int[] colors;
        int[] bads;
        List<Integer> waiting = new ArrayList<>();
        List<List<Integer>> lanes = new ArrayList<>();
        List<Integer> rework = new ArrayList<>();
        List<Integer> ready = new ArrayList<>();
        List<Integer> out = new ArrayList<>();
        int hose = NONE;
        int run;
        int time;
        int changes;
        int purges;
        int cost;
        List<int[]> log = new ArrayList<>();

        State copy() {
            State s = new State();
            s.colors = colors.clone();
            s.bads = bads.clone();
            s.waiting = new ArrayList<>(waiting);
            for (List<Integer> lane : lanes) {
                s.lanes.add(new ArrayList<>(lane));
            }
            s.rework = new ArrayList<>(rework);
            s.ready = new ArrayList<>(ready);
            s.out = new ArrayList<>(out);
            s.hose = hose;
            s.run = run;
            s.time = time;
            s.changes = changes;
            s.purges = purges;
            s.cost = cost;
            s.log = new ArrayList<>(log);
            return s;
        }
    }

    static final class TextError extends Exception {
        private static final long serialVersionUID = 1L;
        final int code;
        final int position;

        TextError(int code, int position) {
            this.code = code;
            this.position = position;
        }
    }

    static final class Token {
        final String text;
        final int position;

        Token(String text, int position) {
            this.text = text;
            this.position = position;
        }

        boolean isName() {
            return text.matches("[a-z]{1,8}") && !RESERVED.contains(text);
        }
    }

    static final class Command {
        String word;
        int number;
        List<Command> inside = new ArrayList<>();
    }

    static final Set<String> RESERVED = new HashSet<>(Arrays.asList("color", "change", "lane", "car",
            "body", "bad", "window", "batch", "purge", "rework", "delay", "span", "enter", "leave",
            "back", "wait", "step", "unload", "swap", "repeat"));

    private byte[] buffer = new byte[0];
    private int errorCode;
    private int errorPosition = NONE;
    private Plant plant = new Plant();
    private State state;
    private byte[] report = new byte[0];
    private Deque<State> past = new ArrayDeque<>();
    private Plant savedPlant;
    private State savedState;

    Model() {
        state = fresh(plant);
    }

    static State fresh(Plant plant) {
        State s = new State();
        s.colors = plant.colors.stream().mapToInt(x -> x).toArray();
        s.bads = plant.bads.stream().mapToInt(x -> x).toArray();
        for (int car = 0; car < s.colors.length; car++) {
            s.waiting.add(car);
        }
        for (int lane = 0; lane < plant.rooms.size(); lane++) {
            s.lanes.add(new ArrayList<>());
        }
        return s;
    }

    // ---- texts

    public int feed(int a, int b, int c, int d, int e) {
        if (buffer.length + 20 > 800) {
            throw new IllegalStateException();
        }
        int at = buffer.length;
        buffer = Arrays.copyOf(buffer, at + 20);
        for (int word : new int[] {a, b, c, d, e}) {
            buffer[at++] = (byte) (word >>> 24);
            buffer[at++] = (byte) (word >>> 16);
            buffer[at++] = (byte) (word >>> 8);
            buffer[at++] = (byte) word;
        }
        return buffer.length;
    }

    public int truncate(int n) {
        if (n < 0 || n > buffer.length) {
            throw new IllegalArgumentException();
        }
        buffer = Arrays.copyOf(buffer, n);
        return n;
    }

    private List<Token> tokens;
    private int at;
    private int length;

    /** Cuts the text and takes it from the buffer; the last token is the empty one at the end. */
    private void cut() {
        String text = new String(buffer, StandardCharsets.ISO_8859_1);
        length = text.length();
        tokens = new ArrayList<>();
        at = 0;
        int i = 0;
        while (i < text.length()) {
            char c = text.charAt(i);
            int j = i + 1;
            if (c >= 'a' && c <= 'z') {
                while (j < text.length() && text.charAt(j) >= 'a' && text.charAt(j) <= 'z') {
                    j++;
                }
            } else if (c >= '0' && c <= '9') {
                while (j < text.length() && text.charAt(j) >= '0' && text.charAt(j) <= '9') {
                    j++;
                }
            }
            if (c != 32 && c != 10) {
                tokens.add(new Token(text.substring(i, j), i));
            }
            i = j;
        }
        tokens.add(new Token("", length));
        buffer = new byte[0];
        errorCode = 0;
        errorPosition = NONE;
    }

    private Token take() {
        return tokens.get(at++);
    }

    private void expect(String text) throws TextError {
        Token token = take();
        if (!token.text.equals(text)) {
            throw new TextError(1, token.position);
        }
    }

    private int number(int low, int high) throws TextError {
        Token token = take();
        if (!token.text.matches("[0-9]{1,3}")) {
            throw new TextError(1, token.position);
        }
        int value = Integer.parseInt(token.text);
        if (value < low || value > high) {
            throw new TextError(2, token.position);
        }
        return value;
    }

    private Token name() throws TextError {
        Token token = take();
        if (!token.isName()) {
            throw new TextError(1, token.position);
        }
        return token;
    }

    private static void limit(int present, int most, Token token) throws TextError {
        if (present >= most) {
            throw new TextError(5, token.position);
        }
    }

    private int statements(Plant p) throws TextError {
        Set<String> seen = new HashSet<>();
        int count = 0;
        while (!tokens.get(at).text.isEmpty()) {
            Token first = take();
            if (first.text.matches("window|batch|rework|span") && !seen.add(first.text)) {
                throw new TextError(3, first.position);
            }
            statement(p, first);
            expect(";");
            count++;
        }
        return count;
    }

    private void statement(Plant p, Token first) throws TextError {
        if (first.text.equals("color")) {
            limit(p.colorNames.size(), 5, first);
            Token name = name();
            if (p.colorNames.contains(name.text)) {
                throw new TextError(3, name.position);
            }
            expect("change");
            p.prices.add(number(0, 99));
            p.colorNames.add(name.text);
        } else if (first.text.equals("lane")) {
            limit(p.rooms.size(), 4, first);
            p.rooms.add(number(1, 6));
        } else if (first.text.equals("car")) {
            limit(p.colors.size(), 12, first);
            Token name = name();
            if (!p.colorNames.contains(name.text)) {
                throw new TextError(4, name.position);
            }
            p.colors.add(p.colorNames.indexOf(name.text));
            expect("body");
            p.bodies.add(number(0, 3));
            int bad = 0;
            if (tokens.get(at).text.equals("bad")) {
                take();
                bad = number(0, 2);
            }
            p.bads.add(bad);
        } else if (first.text.equals("window")) {
            p.ahead = number(0, 11);
            p.back = number(0, 11);
        } else if (first.text.equals("batch")) {
            p.batch = number(1, 9);
            expect("purge");
            p.purge = number(0, 99);
        } else if (first.text.equals("rework")) {
            p.reworkRoom = number(0, 3);
            expect("delay");
            p.delay = number(0, 9);
        } else if (first.text.equals("span")) {
            p.span = number(0, 11);
        } else {
            throw new TextError(1, first.position);
        }
    }

    public int readSetup() {
        cut();
        Plant p = new Plant();
        int count;
        try {
            count = statements(p);
        } catch (TextError e) {
            errorCode = e.code;
            errorPosition = e.position;
            throw new IllegalArgumentException();
        }
        plant = p;
        state = fresh(p);
        past.clear();
        return count;
    }

    private int commandCount;

    private List<Command> commands(int depth) throws TextError {
        List<Command> list = new ArrayList<>();
        String end = depth == 0 ? "" : ")";
        while (!tokens.get(at).text.equals(end)) {
            Token first = take();
            if (first.text.equals("repeat") && depth >= 2) {
                throw new TextError(3, first.position);
            }
            if (first.text.matches("enter|leave|back|wait|step|unload|swap|repeat")) {
                limit(commandCount++, 40, first);
            }
            Command command = new Command();
            command.word = first.text;
            if (first.text.matches("enter|leave|back")) {
                command.number = number(0, 3);
            } else if (first.text.matches("wait|step")) {
                command.number = number(1, 99);
            } else if (first.text.equals("repeat")) {
                command.number = number(1, 20);
                expect("(");
                command.inside = commands(depth + 1);
                expect(")");
            } else if (!first.text.matches("unload|swap")) {
                throw new TextError(1, first.position);
            }
            expect(";");
            list.add(command);
        }
        return list;
    }

    private int done;
    private boolean touched;

    public int runScript() {
        cut();
        commandCount = 0;
        List<Command> script;
        try {
            script = commands(0);
        } catch (TextError e) {
            errorCode = e.code;
            errorPosition = e.position;
            throw new IllegalArgumentException();
        }
        State before = state.copy();
        done = 0;
        touched = false;
        play(script);
        if (touched) {
            remember(before);
        }
        return done;
    }

    private boolean play(List<Command> script) {
        for (Command command : script) {
            if (command.word.equals("repeat")) {
                for (int i = 0; i < command.number; i++) {
                    if (!play(command.inside)) {
                        return false;
                    }
                }
                continue;
            }
            if (done == 100 || !playOne(command)) {
                return false;
            }
            done++;
            touched = true;
        }
        return true;
    }

    private boolean playOne(Command command) {
        int n = command.number;
        boolean lane = n < plant.rooms.size();
        switch (command.word) {
            case "enter":
                return lane && canEnter(state, n) && doEnter(state, n) != NONE;
            case "leave":
                return lane && canLeave(state, n) && doLeave(state, n) != NONE;
            case "back":
                return lane && canBack(state, n) && doBack(state, n) != NONE;
            case "wait":
                for (int i = 0; i < n; i++) {
                    if (state.time == 9999) {
                        return false;
                    }
                    state.time++;
                    touched = true;
                }
                return true;
            case "step":
                for (int i = 0; i < n; i++) {
                    if (doStep(state) == NONE) {
                        return false;
                    }
                    touched = true;
                }
                return true;
            case "unload":
                int[] best = bestUnloading();
                if (best == null) {
                    return false;
                }
                for (int each : lanesOf(best)) {
                    if (!canLeave(state, each)) {
                        return false;
                    }
                    boolean fails = state.bads[state.lanes.get(each).get(0)] > 0;
                    doLeave(state, each);
                    touched = true;
                    if (fails) {
                        return false;
                    }
                }
                return true;
            default:
                doSwap();
                return true;
        }
    }

    public int errorCode() {
        return errorCode;
    }

    public int errorPosition() {
        return errorPosition;
    }

    // ---- the setup

    public int setting(int what) {
        int[] all = {plant.colorNames.size(), plant.rooms.size(), plant.colors.size(), plant.ahead,
            plant.back, plant.batch, plant.purge, plant.reworkRoom, plant.delay, plant.span};
        if (what < 0 || what >= all.length) {
            throw new IllegalArgumentException();
        }
        return all[what];
    }

    private static void check(int i, int size) {
        if (i < 0 || i >= size) {
            throw new IndexOutOfBoundsException();
        }
    }

    private void car(int car) {
        check(car, plant.colors.size());
    }

    private void lane(int lane) {
        check(lane, plant.rooms.size());
    }

    public int changeCost(int color) {
        check(color, plant.prices.size());
        return plant.prices.get(color);
    }

    public int room(int lane) {
        lane(lane);
        return plant.rooms.get(lane);
    }

    public int body(int car) {
        car(car);
        return plant.bodies.get(car);
    }

    public int colorOf(int car) {
        car(car);
        return state.colors[car];
    }

    public int bad(int car) {
        car(car);
        return state.bads[car];
    }

    private Map<String, Integer> kindCounts() {
        Map<String, Integer> counts = new TreeMap<>();
        for (int car = 0; car < state.colors.length; car++) {
            counts.merge(plant.bodies.get(car) + "/" + state.colors[car], 1, Integer::sum);
        }
        return counts;
    }

    public int kinds() {
        return kindCounts().size();
    }

    public int commonest() {
        return kindCounts().values().stream().mapToInt(x -> x).max().orElse(0);
    }

    // ---- where cars are

    public int where(int car) {
        car(car);
        if (state.waiting.contains(car)) {
            return 0;
        }
        for (List<Integer> lane : state.lanes) {
            if (lane.contains(car)) {
                return 1;
            }
        }
        return state.rework.contains(car) ? 2 : 3;
    }

    public int waiting() {
        return state.waiting.size();
    }

    public int laneLength(int lane) {
        lane(lane);
        return state.lanes.get(lane).size();
    }

    private static int get(List<Integer> list, int i) {
        return i >= 0 && i < list.size() ? list.get(i) : NONE;
    }

    public int inLane(int lane, int i) {
        lane(lane);
        return get(state.lanes.get(lane), i);
    }

    public int inRework(int i) {
        return get(state.rework, i);
    }

    public int readyIn() {
        if (state.rework.isEmpty()) {
            return NONE;
        }
        int waits = 0;
        while (state.time + waits < state.ready.get(0)) {
            waits++;
        }
        return waits;
    }

    public int outCount() {
        return state.out.size();
    }

    public int out(int i) {
        return get(state.out, i);
    }

    public int move(int car) {
        car(car);
        if (!state.out.contains(car)) {
            throw new IllegalStateException();
        }
        return state.out.indexOf(car) - car;
    }

    public int late() {
        int late = 0;
        for (int car : state.out) {
            if (move(car) > plant.back) {
                late++;
            }
        }
        return late;
    }

    public int longestBatch() {
        int most = 0;
        for (int i = 0; i < state.out.size(); i++) {
            int j = i;
            while (j < state.out.size()
                    && state.colors[state.out.get(j)] == state.colors[state.out.get(i)]) {
                j++;
            }
            most = Math.max(most, j - i);
        }
        return most;
    }

    public boolean canLeave(int lane) {
        lane(lane);
        return canLeave(state, lane);
    }

    public int hose() {
        return state.hose;
    }

    public int run() {
        return state.run;
    }

    public int time() {
        return state.time;
    }

    public int changes() {
        return state.changes;
    }

    public int purges() {
        return state.purges;
    }

    public int cost() {
        return state.cost;
    }

    // ---- doing, on any state

    private boolean canEnter(State s, int lane) {
        return !s.waiting.isEmpty() && s.lanes.get(lane).size() < plant.rooms.get(lane);
    }

    private int doEnter(State s, int lane) {
        int car = s.waiting.remove(0);
        s.lanes.get(lane).add(car);
        return car;
    }

    private boolean canLeave(State s, int lane) {
        if (s.lanes.get(lane).isEmpty() || s.time == 9999) {
            return false;
        }
        int car = s.lanes.get(lane).get(0);
        boolean fails = s.bads[car] > 0;
        if (fails && s.rework.size() >= plant.reworkRoom) {
            return false;
        }
        return fails || car - s.out.size() <= plant.ahead;
    }

    private int doLeave(State s, int lane) {
        int car = s.lanes.get(lane).remove(0);
        int color = s.colors[car];
        int price = 0;
        int bits = 0;
        if (s.hose == NONE) {
            s.run = 1;
        } else if (s.hose != color) {
            s.changes++;
            price = plant.prices.get(color);
            bits = 1;
            s.run = 1;
        } else if (s.run == plant.batch) {
            s.purges++;
            price = plant.purge;
            bits = 2;
            s.run = 1;
        } else {
            s.run++;
        }
        s.hose = color;
        s.cost += price;
        s.time++;
        if (s.bads[car] > 0) {
            s.bads[car]--;
            bits += 4;
            s.rework.add(car);
            s.ready.add(s.time + plant.delay);
        } else {
            s.out.add(car);
        }
        s.log.add(0, new int[] {car, color, price, bits});
        return car;
    }

    private boolean canBack(State s, int lane) {
        return !s.rework.isEmpty() && s.time >= s.ready.get(0)
                && s.lanes.get(lane).size() < plant.rooms.get(lane);
    }

    private int doBack(State s, int lane) {
        int car = s.rework.remove(0);
        s.ready.remove(0);
        s.lanes.get(lane).add(car);
        return car;
    }

    private int chooseFor(State s, int car) {
        for (int lane = 0; lane < s.lanes.size(); lane++) {
            List<Integer> cars = s.lanes.get(lane);
            if (cars.size() < plant.rooms.get(lane) && !cars.isEmpty()
                    && s.colors[cars.get(cars.size() - 1)] == s.colors[car]) {
                return lane;
            }
        }
        for (int size = 0; size < 6; size++) {
            for (int lane = 0; lane < s.lanes.size(); lane++) {
                int here = s.lanes.get(lane).size();
                if (here == size && here < plant.rooms.get(lane)) {
                    return lane;
                }
            }
        }
        return NONE;
    }

    private int chooseToLeave(State s) {
        int best = NONE;
        for (int lane = s.lanes.size() - 1; lane >= 0; lane--) {
            if (canLeave(s, lane)) {
                int car = s.lanes.get(lane).get(0);
                boolean same = s.colors[car] == s.hose;
                if (best == NONE || same) {
                    best = lane;
                } else {
                    int other = s.lanes.get(best).get(0);
                    if (s.colors[other] != s.hose && car < other) {
                        best = lane;
                    }
                }
            }
        }
        return best;
    }

    private int doStep(State s) {
        if (!s.rework.isEmpty()) {
            int lane = chooseFor(s, s.rework.get(0));
            if (lane != NONE && canBack(s, lane)) {
                doBack(s, lane);
                return 0;
            }
        }
        if (!s.waiting.isEmpty()) {
            int lane = chooseFor(s, s.waiting.get(0));
            if (lane != NONE && canEnter(s, lane)) {
                doEnter(s, lane);
                return 1;
            }
        }
        int lane = chooseToLeave(s);
        if (lane != NONE) {
            doLeave(s, lane);
            return 2;
        }
        if (!s.rework.isEmpty() && s.time < 9999) {
            s.time++;
            return 3;
        }
        return NONE;
    }

    private void remember(State before) {
        past.push(before);
        while (past.size() > 6) {
            past.removeLast();
        }
    }

    // ---- what is done

    public int enter(int lane) {
        lane(lane);
        if (!canEnter(state, lane)) {
            return NONE;
        }
        remember(state.copy());
        return doEnter(state, lane);
    }

    public int leave(int lane) {
        lane(lane);
        if (!canLeave(state, lane)) {
            return NONE;
        }
        remember(state.copy());
        return doLeave(state, lane);
    }

    public int back(int lane) {
        lane(lane);
        if (!canBack(state, lane)) {
            return NONE;
        }
        remember(state.copy());
        return doBack(state, lane);
    }

    public int waits() {
        if (state.time == 9999) {
            return NONE;
        }
        remember(state.copy());
        return ++state.time;
    }

    public int step() {
        State before = state.copy();
        int made = doStep(state);
        if (made != NONE) {
            remember(before);
        }
        return made;
    }

    public int unload() {
        int[] best = bestUnloading();
        if (best == null || best.length == 2) {
            return NONE;
        }
        State before = state.copy();
        int left = 0;
        for (int lane : lanesOf(best)) {
            if (!canLeave(state, lane)) {
                break;
            }
            boolean fails = state.bads[state.lanes.get(lane).get(0)] > 0;
            doLeave(state, lane);
            left++;
            if (fails) {
                break;
            }
        }
        if (left == 0) {
            return NONE;
        }
        remember(before);
        return left;
    }

    private int doSwap() {
        int[] row = bestRow();
        int changed = 0;
        for (int i = 0; i < row.length; i++) {
            int car = state.waiting.get(i);
            if (state.colors[car] != row[i]) {
                state.colors[car] = row[i];
                changed++;
            }
        }
        return changed;
    }

    public int swap() {
        State before = state.copy();
        int changed = doSwap();
        if (changed == 0) {
            return NONE;
        }
        remember(before);
        return changed;
    }

    // ---- looking ahead

    private State ahead(int steps) {
        if (steps < 0 || steps > 300) {
            throw new IllegalArgumentException();
        }
        State s = state.copy();
        for (int i = 0; i < steps; i++) {
            doStep(s);
        }
        return s;
    }

    public int ruleCost(int steps) {
        return ahead(steps).cost;
    }

    public int ruleOut(int steps) {
        return ahead(steps).out.size();
    }

    public int stepsToOut(int car) {
        car(car);
        State s = state.copy();
        for (int steps = 0; steps <= 300; steps++) {
            if (s.out.contains(car)) {
                return steps;
            }
            if (doStep(s) == NONE) {
                return NONE;
            }
        }
        return NONE;
    }

    public int laneFor(int car) {
        car(car);
        return chooseFor(state, car);
    }

    // ---- unloading: all sequences, from the lowest on

    private final Map<String, int[]> unloadings = new HashMap<>();
    private int[] bestFound;
    private int[] tried;

    /** Cost, changes and the lanes; null if there is no allowed unloading. */
    private int[] bestUnloading() {
        String key = Arrays.toString(state.colors) + state.lanes + state.hose + "/" + state.run + "/"
                + state.out.size() + "/" + plant.ahead + "/" + plant.back + "/" + plant.batch + "/"
                + plant.purge + plant.prices;
        if (!unloadings.containsKey(key)) {
            bestFound = null;
            int total = state.lanes.stream().mapToInt(List::size).sum();
            tried = new int[total];
            tryAll(0, new int[state.lanes.size()], state.hose, state.run, 0, 0);
            unloadings.put(key, bestFound);
        }
        return unloadings.get(key);
    }

    private static int[] lanesOf(int[] best) {
        return Arrays.copyOfRange(best, 2, best.length);
    }

    private void tryAll(int left, int[] taken, int hose, int run, int cost, int changes) {
        if (bestFound != null && (cost > bestFound[0]
                || cost == bestFound[0] && changes >= bestFound[1])) {
            return;
        }
        if (left == tried.length) {
            bestFound = new int[left + 2];
            bestFound[0] = cost;
            bestFound[1] = changes;
            System.arraycopy(tried, 0, bestFound, 2, left);
            return;
        }
        for (int lane = 0; lane < taken.length; lane++) {
            if (taken[lane] == state.lanes.get(lane).size()) {
                continue;
            }
            int car = state.lanes.get(lane).get(taken[lane]);
            int move = state.out.size() + left - car;
            if (move < -plant.ahead || move > plant.back) {
                continue;
            }
            int color = state.colors[car];
            boolean change = hose != NONE && hose != color;
            boolean purge = hose == color && run == plant.batch;
            int price = change ? plant.prices.get(color) : purge ? plant.purge : 0;
            int next = change || purge || hose == NONE ? 1 : run + 1;
            tried[left] = lane;
            taken[lane]++;
            tryAll(left + 1, taken, color, next, cost + price, changes + (change ? 1 : 0));
            taken[lane]--;
        }
    }

    public int unloadCost() {
        int[] best = bestUnloading();
        return best == null ? NONE : best[0];
    }

    public int unloadChanges() {
        int[] best = bestUnloading();
        return best == null ? NONE : best[1];
    }

    public int unloadLane(int i) {
        int[] best = bestUnloading();
        return best == null || i < 0 || i >= best.length - 2 ? NONE : best[i + 2];
    }

    // ---- bounds

    private int boundOf(Set<Integer> cars) {
        Set<Integer> colors = new HashSet<>();
        for (int car : cars) {
            colors.add(state.colors[car]);
        }
        colors.remove(state.hose);
        int sum = colors.stream().mapToInt(c -> plant.prices.get(c)).sum();
        int most = colors.stream().mapToInt(c -> plant.prices.get(c)).max().orElse(0);
        return state.hose == NONE ? sum - most : sum;
    }

    public int laneBound() {
        Set<Integer> cars = new HashSet<>();
        state.lanes.forEach(cars::addAll);
        return boundOf(cars);
    }

    public int bound() {
        Set<Integer> cars = new HashSet<>();
        for (int car = 0; car < state.colors.length; car++) {
            cars.add(car);
        }
        cars.removeAll(state.out);
        return boundOf(cars);
    }

    // ---- exchanges: rows of colors in their order, with ever more changes, each tested by matching

    private final Map<String, int[]> rows = new HashMap<>();
    private int[] row;

    private int[] bestRow() {
        String key = state.waiting + Arrays.toString(state.colors) + plant.bodies + plant.span;
        if (!rows.containsKey(key)) {
            row = new int[state.waiting.size()];
            int changes = 0;
            while (!fill(0, changes)) {
                changes++;
            }
            rows.put(key, row);
        }
        return rows.get(key);
    }

    private boolean fill(int place, int changes) {
        if (changes < 0 || !matches(place)) {
            return false;
        }
        if (place == row.length) {
            return true;
        }
        for (int color = 0; color < 5; color++) {
            row[place] = color;
            int more = place > 0 && row[place - 1] != color ? 1 : 0;
            if (fill(place + 1, changes - more)) {
                return true;
            }
        }
        return false;
    }

    /** Whether each place can get a job of its own, those before "fixed" one of their row's color. */
    private boolean matches(int fixed) {
        int[] placeOfJob = new int[row.length];
        Arrays.fill(placeOfJob, NONE);
        for (int place = 0; place < row.length; place++) {
            if (!augment(place, fixed, placeOfJob, new boolean[row.length])) {
                return false;
            }
        }
        return true;
    }

    private boolean augment(int place, int fixed, int[] placeOfJob, boolean[] seen) {
        int low = Math.max(0, place - plant.span);
        int high = Math.min(row.length - 1, place + plant.span);
        for (int job = low; job <= high; job++) {
            int car = state.waiting.get(job);
            boolean color = place >= fixed || state.colors[car] == row[place];
            boolean body = plant.bodies.get(car).equals(plant.bodies.get(state.waiting.get(place)));
            if (!seen[job] && color && body) {
                seen[job] = true;
                if (placeOfJob[job] == NONE || augment(placeOfJob[job], fixed, placeOfJob, seen)) {
                    placeOfJob[job] = place;
                    return true;
                }
            }
        }
        return false;
    }

    private static int changesIn(int[] colors) {
        int changes = 0;
        for (int i = 1; i < colors.length; i++) {
            changes += colors[i] == colors[i - 1] ? 0 : 1;
        }
        return changes;
    }

    public int waitingChanges() {
        return changesIn(state.waiting.stream().mapToInt(car -> state.colors[car]).toArray());
    }

    public int swapChanges() {
        return changesIn(bestRow());
    }

    public int swapColor(int i) {
        int[] best = bestRow();
        return i < 0 || i >= best.length ? NONE : best[i];
    }

    // ---- log, report, undo, saved state

    public int logCount() {
        return Math.min(20, state.log.size());
    }

    public int log(int i, int what) {
        check(i, logCount());
        if (what < 0 || what > 3) {
            throw new IllegalArgumentException();
        }
        return state.log.get(i)[what];
    }

    private String told(List<Integer> cars) {
        StringBuilder text = new StringBuilder();
        for (int car : cars) {
            text.append(' ').append(plant.colorNames.get(state.colors[car]));
            text.append(plant.bodies.get(car));
        }
        return text.append('\n').toString();
    }

    public int report() {
        StringBuilder text = new StringBuilder();
        for (int lane = 0; lane < state.lanes.size(); lane++) {
            text.append("lane ").append(lane).append(told(state.lanes.get(lane)));
        }
        text.append("out").append(told(state.out));
        report = text.toString().getBytes(StandardCharsets.ISO_8859_1);
        return report.length;
    }

    public int reportByte(int i) {
        check(i, report.length);
        return report[i];
    }

    public int undo() {
        if (past.isEmpty()) {
            return NONE;
        }
        state = past.pop();
        return past.size();
    }

    public int save() {
        savedPlant = plant;
        savedState = state.copy();
        return state.time;
    }

    public int restore() {
        if (savedState == null) {
            throw new IllegalStateException();
        }
        plant = savedPlant;
        state = savedState.copy();
        past.clear();
        return state.time;
    }
}
