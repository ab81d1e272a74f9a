import java.lang.reflect.InvocationTargetException;
import java.lang.reflect.Method;
import java.nio.charset.StandardCharsets;
import java.util.ArrayList;
import java.util.Arrays;
import java.util.Comparator;
import java.util.List;

/** Makes the same calls, by dice, on PaintBank and on the model; all answers must be the same. */
public final class ModelTest {
    private static final int RUNS = 3000;
    private static final int CALLS = 60;
    private static final int TOLD = 5;

    private static final String[] DOING = {"enter", "enter", "enter", "leave", "leave", "back", "back",
        "waits", "step", "step", "step", "unload", "swap", "undo", "save", "restore"};

    private final Method[] bankMethods;
    private final Method[] modelMethods;
    private final Dice dice;
    private final Texts texts;
    private PaintBank bank;
    private Model model;
    private List<String> calls;
    private boolean right;
    private long checked;

    private ModelTest(long seed) throws NoSuchMethodException {
        bankMethods = PaintBank.class.getDeclaredMethods();
        int count = 0;
        for (Method method : bankMethods) {
            if (java.lang.reflect.Modifier.isPublic(method.getModifiers())) {
                bankMethods[count++] = method;
            }
        }
        Arrays.sort(bankMethods, 0, count, Comparator.comparing(Method::getName));
        modelMethods = new Method[count];
        for (int i = 0; i < count; i++) {
            Method method = bankMethods[i];
            modelMethods[i] = Model.class.getMethod(method.getName(), method.getParameterTypes());
        }
        dice = new Dice(seed);
        texts = new Texts(dice);
    }

    public static void main(String[] args) throws ReflectiveOperationException {
        int first = args.length > 0 ? Integer.parseInt(args[0]) : 1;
        int runs = args.length > 1 ? Integer.parseInt(args[1]) : RUNS;
        int wrong = 0;
        long checked = 0;
        for (int seed = first; seed < first + runs && wrong < TOLD; seed++) {
            ModelTest test = new ModelTest(seed);
            if (!test.runOnce()) {
                wrong++;
                System.out.println("run " + seed + ": " + String.join("\n    ", test.calls));
            }
            checked += test.checked;
        }
        System.out.println(checked + " answers compared, " + wrong + " runs not as due");
        if (wrong != 0 || checked == 0) {
            System.exit(1);
        }
    }

    private boolean runOnce() throws ReflectiveOperationException {
        bank = new PaintBank();
        model = new Model();
        calls = new ArrayList<>();
        right = true;
        if (!dice.once(10)) {
            type(texts.setup());
            call("readSetup");
        }
        if (dice.once(15)) {
            nearTheEndOfTime();
        }
        if (dice.once(2)) {
            fillLanes();
        }
        for (int i = 0; i < CALLS && right; i++) {
            one();
        }
        observe();
        return right;
    }

    private void nearTheEndOfTime() throws ReflectiveOperationException {
        type("repeat 20 (repeat 20 (wait 99;););");
        call("runScript");
        type("wait " + dice.between(75, 99) + ";");
        call("runScript");
    }

    private void fillLanes() throws ReflectiveOperationException {
        int times = dice.between(1, 14);
        for (int i = 0; i < times && right; i++) {
            call("enter", dice.below(4));
        }
    }

    private void one() throws ReflectiveOperationException {
        int kind = dice.below(100);
        if (kind < 2) {
            type(dice.once(3) ? texts.faulty(texts.setup()) : texts.setup());
            call("readSetup");
        } else if (kind < 14) {
            type(dice.once(4) ? texts.faulty(texts.script()) : texts.script());
            call("runScript");
        } else if (kind < 70) {
            String name = DOING[dice.below(DOING.length)];
            if (name.matches("enter|leave|back")) {
                call(name, dice.once(30) ? dice.between(-1, 4) : dice.below(4));
            } else {
                call(name);
            }
        } else if (kind < 74) {
            observe();
        } else {
            any();
        }
    }

    private void type(String text) throws ReflectiveOperationException {
        byte[] bytes = text.getBytes(StandardCharsets.ISO_8859_1);
        calls.add("// " + text.replace("\n", "\\n"));
        for (int i = 0; i < bytes.length && right; i += 20) {
            call("feed", Due.word(bytes, i), Due.word(bytes, i + 4), Due.word(bytes, i + 8),
                    Due.word(bytes, i + 12), Due.word(bytes, i + 16));
        }
        if (bytes.length % 20 != 0) {
            call("truncate", bytes.length);
        }
    }

    private int argument() {
        switch (dice.below(10)) {
            case 0: return -1;
            case 1: return dice.between(250, 302);
            case 2: return dice.one("a", "b").equals("a") ? Integer.MAX_VALUE : Integer.MIN_VALUE;
            case 3: return dice.below(40);
            default: return dice.below(13);
        }
    }

    private void any() throws ReflectiveOperationException {
        int k = dice.below(modelMethods.length);
        int[] args = new int[modelMethods[k].getParameterCount()];
        for (int i = 0; i < args.length; i++) {
            args[i] = argument();
        }
        compare(k, args);
    }

    /** Compares all that can be seen, one argument beyond each end included. */
    private void observe() throws ReflectiveOperationException {
        for (int k = 0; k < modelMethods.length && right; k++) {
            String name = modelMethods[k].getName();
            if (name.matches("feed|truncate|readSetup|runScript|undo|save|restore|enter|leave|back"
                    + "|waits|step|unload|swap")) {
                continue;
            }
            int count = modelMethods[k].getParameterCount();
            if (count == 0) {
                compare(k);
            } else if (name.matches("ruleCost|ruleOut")) {
                compare(k, dice.below(20));
                compare(k, 300);
            } else if (count == 1) {
                for (int i = -1; i <= 13 && right; i++) {
                    compare(k, i);
                }
            } else {
                compareTable(k, name.equals("log") ? 21 : 5, name.equals("log") ? 4 : 7);
            }
        }
        for (int i = 0; i < 160 && right; i++) {
            call("reportByte", i);
        }
    }

    private void compareTable(int k, int rows, int columns) throws ReflectiveOperationException {
        for (int i = -1; i < rows && right; i++) {
            for (int j = -1; j <= columns && right; j++) {
                compare(k, i, j);
            }
        }
    }

    private void call(String name, int... args) throws ReflectiveOperationException {
        for (int k = 0; k < modelMethods.length; k++) {
            if (modelMethods[k].getName().equals(name)) {
                compare(k, args);
                return;
            }
        }
        throw new NoSuchMethodException(name);
    }

    private void compare(int k, int... args) throws ReflectiveOperationException {
        if (!right) {
            return;
        }
        Object[] boxed = Arrays.stream(args).boxed().toArray();
        String got = answer(bankMethods[k], bank, boxed);
        String want = answer(modelMethods[k], model, boxed);
        checked++;
        calls.add(bankMethods[k].getName() + Arrays.toString(args) + " -> " + got);
        if (!got.equals(want)) {
            calls.add("    due is " + want);
            right = false;
        }
    }

    private static String answer(Method method, Object target, Object[] args)
            throws IllegalAccessException {
        try {
            return String.valueOf(method.invoke(target, args));
        } catch (InvocationTargetException e) {
            return "throws." + e.getCause().getClass().getSimpleName();
        }
    }
}
