import java.lang.reflect.Field;
import java.lang.reflect.Method;
import java.lang.reflect.Modifier;
import java.util.List;
import java.util.Set;
import java.util.TreeSet;

/** "The public face": the methods and constants of the document, and no others. */
public final class FaceTest {
    private static final Checks CHECKS = new Checks("FaceTest");

    static final List<String> METHODS = List.of("add(int,int,int)", "read()", "prefer(int,int)", "post(int,int)", "release(int)",
        "step(int)", "run()", "of(int,int)", "command(int,int,int)", "inbox(int,int)", "holder(int)", "count(int)", "slotsLeft()",
        "leftIf(int,int,int)", "sumBehind(int,int)", "put(long)", "wipe()", "fault()", "undo()", "save(int)", "restore(int)");
    private static final List<String> CONSTANTS = List.of("NO_SUCH -1", "BAD_VALUE -2", "BAD_TEXT -3", "TOO_MANY -4", "NOT_POSSIBLE -5",
        "NONE -6", "ADD 0", "SEND 1", "TAKE 2", "LOCK 3", "FREE 4", "WAIT 5", "BACK 6");

    public static void main(String[] args) throws IllegalAccessException {
        face();
        constants();
        CHECKS.end();
    }

    private static void holds(String what, boolean holds) {
        CHECKS.due(what, holds ? 1 : 0, 1);
    }

    private static String signature(Method method) {
        StringBuilder text = new StringBuilder(method.getName()).append('(');
        for (Class<?> type : method.getParameterTypes()) {
            text.append(text.charAt(text.length() - 1) == '(' ? "" : ",").append(type.getName());
        }
        return text.append(')').toString();
    }

    private static void face() {
        int modifiers = TurnSlots.class.getModifiers();
        holds("public and final", Modifier.isPublic(modifiers) && Modifier.isFinal(modifiers));
        holds("one constructor", TurnSlots.class.getDeclaredConstructors().length == 1);
        holds("it is public", TurnSlots.class.getConstructors().length == 1 && TurnSlots.class.getConstructors()[0].getParameterCount() == 0);
        Set<String> found = new TreeSet<>();
        for (Method method : TurnSlots.class.getDeclaredMethods()) {
            if (!Modifier.isPrivate(method.getModifiers())) {
                found.add(signature(method));
                holds("public, not static, int: " + method, method.getModifiers() == Modifier.PUBLIC && method.getReturnType() == int.class);
            }
        }
        holds("the document's methods alone: " + found, found.equals(new TreeSet<>(METHODS)));
    }

    private static void constants() throws IllegalAccessException {
        Set<String> found = new TreeSet<>();
        for (Field field : TurnSlots.class.getDeclaredFields()) {
            if (!Modifier.isPrivate(field.getModifiers())) {
                holds("a public constant: " + field, field.getModifiers() == (Modifier.PUBLIC | Modifier.STATIC | Modifier.FINAL));
                found.add(field.getName() + " " + field.getInt(null));
            }
        }
        holds("the document's constants alone: " + found, found.equals(new TreeSet<>(CONSTANTS)));
    }
}
