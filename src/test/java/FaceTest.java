import java.lang.reflect.Constructor;
import java.lang.reflect.Field;
import java.lang.reflect.Method;
import java.lang.reflect.Modifier;
import java.util.Arrays;
import java.util.Set;
import java.util.TreeSet;

/** The class has the document's face, and no other member that can be seen from outside. */
public final class FaceTest {
    private static final String OUTSIDE = " IndexOutOfBoundsException";
    private static final String ARGUMENT = " IllegalArgumentException";
    private static final String STATE = " IllegalStateException";

    private static final String[] FACE = {
        "int feed(int,int,int,int,int)" + STATE,
        "int truncate(int)" + ARGUMENT,
        "int readSetup()" + ARGUMENT,
        "int runScript()" + ARGUMENT,
        "int errorCode()",
        "int errorPosition()",
        "int setting(int)" + ARGUMENT,
        "int changeCost(int)" + OUTSIDE,
        "int room(int)" + OUTSIDE,
        "int body(int)" + OUTSIDE,
        "int colorOf(int)" + OUTSIDE,
        "int bad(int)" + OUTSIDE,
        "int kinds()",
        "int commonest()",
        "int where(int)" + OUTSIDE,
        "int waiting()",
        "int laneLength(int)" + OUTSIDE,
        "int inLane(int,int)" + OUTSIDE,
        "int inRework(int)",
        "int readyIn()",
        "int outCount()",
        "int out(int)",
        "int move(int)" + OUTSIDE + STATE,
        "int late()",
        "int longestBatch()",
        "boolean canLeave(int)" + OUTSIDE,
        "int hose()",
        "int run()",
        "int time()",
        "int changes()",
        "int purges()",
        "int cost()",
        "int enter(int)" + OUTSIDE,
        "int leave(int)" + OUTSIDE,
        "int back(int)" + OUTSIDE,
        "int waits()",
        "int step()",
        "int unload()",
        "int swap()",
        "int ruleCost(int)" + ARGUMENT,
        "int ruleOut(int)" + ARGUMENT,
        "int stepsToOut(int)" + OUTSIDE,
        "int laneFor(int)" + OUTSIDE,
        "int unloadCost()",
        "int unloadChanges()",
        "int unloadLane(int)",
        "int laneBound()",
        "int bound()",
        "int waitingChanges()",
        "int swapChanges()",
        "int swapColor(int)",
        "int logCount()",
        "int log(int,int)" + OUTSIDE + ARGUMENT,
        "int report()",
        "int reportByte(int)" + OUTSIDE,
        "int undo()",
        "int save()",
        "int restore()" + STATE,
    };

    public static void main(String[] args) {
        Due due = new Due();
        checkMethods(due);
        checkOtherMembers(due);
        checkNestedClasses(due);
        due.end();
    }

    private static void checkMethods(Due due) {
        Set<String> want = new TreeSet<>(Arrays.asList(FACE));
        Set<String> got = new TreeSet<>();
        Set<String> hidden = new TreeSet<>();
        Set<String> names = new TreeSet<>();
        for (Method method : PaintBank.class.getDeclaredMethods()) {
            if (method.isSynthetic()) {
                continue;
            }
            if (Modifier.isPrivate(method.getModifiers())) {
                hidden.add(method.getName());
                continue;
            }
            due.same(method.getName() + ": modifiers", method.getModifiers(), Modifier.PUBLIC);
            got.add(signature(method));
            names.add(method.getName());
        }
        due.same("the methods", got.toString(), want.toString());
        hidden.retainAll(names);
        due.same("private methods with a public name", hidden.toString(), "[]");
    }

    private static String signature(Method method) {
        StringBuilder text = new StringBuilder();
        text.append(method.getReturnType().getName()).append(' ').append(method.getName());
        text.append('(');
        String comma = "";
        for (Class<?> type : method.getParameterTypes()) {
            text.append(comma).append(type.getName());
            comma = ",";
        }
        text.append(')');
        for (Class<?> type : method.getExceptionTypes()) {
            text.append(' ').append(type.getSimpleName());
        }
        return text.toString();
    }

    private static void checkOtherMembers(Due due) {
        int face = Modifier.PUBLIC | Modifier.FINAL;
        due.same("modifiers of the class", PaintBank.class.getModifiers(), face);
        Constructor<?>[] constructors = PaintBank.class.getDeclaredConstructors();
        due.same("constructors", constructors.length, 1);
        due.same("parameters", constructors[0].getParameterCount(), 0);
        due.same("modifiers of it", constructors[0].getModifiers(), Modifier.PUBLIC);
        due.same("NONE", PaintBank.NONE, -1);
        for (Field field : PaintBank.class.getDeclaredFields()) {
            boolean constant = field.getName().equals("NONE");
            int want = constant ? face | Modifier.STATIC : Modifier.PRIVATE;
            int seen = Modifier.PUBLIC | Modifier.PROTECTED | Modifier.PRIVATE;
            int got = field.getModifiers() & (constant ? face | Modifier.STATIC : seen);
            due.same("modifiers of " + field.getName(), got, want);
        }
    }

    private static void checkNestedClasses(Due due) {
        Class<?>[] nested = PaintBank.class.getDeclaredClasses();
        due.yes("at most twelve classes in the file", nested.length + 1 <= 12);
        for (Class<?> each : nested) {
            int modifiers = each.getModifiers();
            int seen = modifiers & (Modifier.PUBLIC | Modifier.PROTECTED);
            due.same("visibility of " + each.getName(), seen, 0);
            due.yes(each.getName() + " is static", Modifier.isStatic(modifiers));
            for (Field field : each.getDeclaredFields()) {
                boolean variable = Modifier.isStatic(field.getModifiers())
                        && !Modifier.isFinal(field.getModifiers());
                due.no(each.getName() + "." + field.getName() + " is static state", variable);
            }
        }
    }
}
