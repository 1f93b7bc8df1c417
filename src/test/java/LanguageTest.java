import java.io.IOException;
import java.lang.reflect.Field;
import java.lang.reflect.Method;
import java.lang.reflect.Modifier;
import java.nio.file.Files;
import java.nio.file.Path;
import java.util.Arrays;
import java.util.List;
import java.util.Set;
import java.util.TreeSet;
import java.util.regex.Matcher;
import java.util.regex.Pattern;

/** The document's face, and what of LANGUAGE.md can be seen by looking at the class and its source. */
public final class LanguageTest {
    private static final Checks CHECKS = new Checks("LanguageTest");
    private static final Path SOURCE = Path.of("src/main/java/TurnSlots.java");

    private static final List<String> FACE = List.of("add(int,int,int)", "read()", "prefer(int,int)", "post(int,int)", "release(int)",
        "step(int)", "run()", "of(int,int)", "command(int,int,int)", "inbox(int,int)", "holder(int)", "count(int)", "slotsLeft()",
        "leftIf(int,int,int)", "sumBehind(int,int)", "put(long)", "wipe()", "fault()", "undo()", "save(int)", "restore(int)");
    private static final List<String> CONSTANTS = List.of("NO_SUCH -1", "BAD_VALUE -2", "BAD_TEXT -3", "TOO_MANY -4", "NOT_POSSIBLE -5",
        "NONE -6", "ADD 0", "SEND 1", "TAKE 2", "LOCK 3", "FREE 4", "WAIT 5", "BACK 6");

    public static void main(String[] args) throws IOException, IllegalAccessException {
        face();
        constants();
        insideClasses();
        words(code(Files.readString(SOURCE)));
        library(code(Files.readString(SOURCE)));
        lengths(Files.readAllLines(SOURCE));
        CHECKS.end();
    }

    private static void holds(String what, boolean holds) {
        CHECKS.due(what, holds ? 1 : 0, 1);
    }

    private static String signature(Method method) {
        StringBuilder text = new StringBuilder(method.getName()).append('(');
        for (Class<?> type : method.getParameterTypes()) {
            text.append(text.charAt(text.length() - 1) == '(' ? "" : ",").append(type.getName());
        }
        return text.append(')').toString();
    }

    private static void face() {
        int modifiers = TurnSlots.class.getModifiers();
        holds("public and final", Modifier.isPublic(modifiers) && Modifier.isFinal(modifiers));
        holds("one constructor", TurnSlots.class.getDeclaredConstructors().length == 1);
        holds("it is public", TurnSlots.class.getConstructors().length == 1 && TurnSlots.class.getConstructors()[0].getParameterCount() == 0);
        Set<String> found = new TreeSet<>();
        for (Method method : TurnSlots.class.getDeclaredMethods()) {
            if (!Modifier.isPrivate(method.getModifiers())) {
                found.add(signature(method));
                holds("public, not static, int: " + method, method.getModifiers() == Modifier.PUBLIC && method.getReturnType() == int.class);
            }
        }
        holds("the document's methods alone: " + found, found.equals(new TreeSet<>(FACE)));
    }

    private static void constants() throws IllegalAccessException {
        Set<String> found = new TreeSet<>();
        for (Field field : TurnSlots.class.getDeclaredFields()) {
            if (!Modifier.isPrivate(field.getModifiers())) {
                holds("a public constant: " + field, field.getModifiers() == (Modifier.PUBLIC | Modifier.STATIC | Modifier.FINAL));
                found.add(field.getName() + " " + field.getInt(null));
            }
        }
        holds("the document's constants alone: " + found, found.equals(new TreeSet<>(CONSTANTS)));
    }

    private static void insideClasses() {
        Class<?>[] classes = TurnSlots.class.getDeclaredClasses();
        holds("at most twelve classes", classes.length < 12);
        Set<String> names = new TreeSet<>();
        for (String signature : FACE) {
            names.add(signature.substring(0, signature.indexOf('(')));
        }
        fieldsOf(TurnSlots.class);
        for (Class<?> inside : classes) {
            holds("static: " + inside, Modifier.isStatic(inside.getModifiers()) || inside.isInterface());
            holds("not for others: " + inside, !Modifier.isPublic(inside.getModifiers()) && !Modifier.isProtected(inside.getModifiers()));
            fieldsOf(inside);
            for (Method method : inside.getDeclaredMethods()) {
                holds("no name of the face: " + method, !names.contains(method.getName()));
                holds("at most seven parameters: " + method, method.getParameterCount() <= 7);
            }
        }
        for (Method method : TurnSlots.class.getDeclaredMethods()) {
            holds("no name of the face: " + method, Modifier.isPublic(method.getModifiers()) || !names.contains(method.getName()));
        }
    }

    private static void fieldsOf(Class<?> type) {
        int fields = 0;
        for (Field field : type.getDeclaredFields()) {
            if (Modifier.isStatic(field.getModifiers())) {
                holds("static fields are final: " + field, Modifier.isFinal(field.getModifiers()));
                holds("static fields are constants: " + field,
                    Set.of("int", "long", "boolean", "char", "java.lang.String", "[I", "[J", "[C", "[B").contains(field.getType().getName()));
            } else {
                fields++;
            }
        }
        holds("at most twenty fields: " + type, fields <= 20);
    }

    /** The source without comments and texts. */
    private static String code(String source) {
        return source.replaceAll("(?s)/\\*.*?\\*/", " ").replaceAll("//[^\n]*", " ").replaceAll("\"[^\"]*\"", "\"\"").replaceAll("'.'", "' '");
    }

    private static void words(String code) {
        String[] words = {"throw", "throws", "try", "catch", "finally", "synchronized", "assert", "package", "import", "instanceof", "volatile",
            "native", "equals", "hashCode", "toString", "protected", "var", "yield", "goto"};
        for (String word : words) {
            holds("not in the language: " + word, !Pattern.compile("\\b" + word + "\\b").matcher(code).find());
        }
        holds("no lambda", !code.contains("->"));
        holds("no method reference", !code.contains("::"));
        holds("no static block", !Pattern.compile("static\\s*\\{").matcher(code).find());
        holds("no joining of texts by +", !code.contains("\" +") && !code.contains("+ \""));
        holds("signs 1 to 127", code.chars().allMatch(sign -> sign > 0 && sign < 128));
        holds("no loop without a bound", !Pattern.compile("while \\(true\\)|for \\(;;\\)").matcher(code).find());
    }

    private static void library(String code) {
        Set<String> allowed = new TreeSet<>(List.of("Math.max", "Math.min", "Integer.bitCount", "System.arraycopy", "LETTERS.indexOf", "Pad.charactersIn"));
        Matcher matcher = Pattern.compile("\\b[A-Z][A-Za-z]*\\.\\w+").matcher(code);
        while (matcher.find()) {
            holds("in the library: " + matcher.group(), allowed.contains(matcher.group()));
        }
        Set<String> made = new TreeSet<>(List.of("int", "char", "boolean"));
        for (Class<?> inside : TurnSlots.class.getDeclaredClasses()) {
            made.add(inside.getSimpleName());
        }
        matcher = Pattern.compile("\\bnew (\\w+)").matcher(code);
        while (matcher.find()) {
            holds("may be made: " + matcher.group(), made.contains(matcher.group(1)));
        }
    }

    /** Methods are told by their indentation: four blanks in the class, eight in the classes inside it. */
    private static void lengths(List<String> lines) {
        Pattern head = Pattern.compile("( {4}| {8})(?!.*\\bclass\\b)\\S.*\\) \\{");
        for (int i = 0; i < lines.size(); i++) {
            Matcher matcher = head.matcher(lines.get(i));
            if (matcher.matches()) {
                int end = lines.subList(i, lines.size()).indexOf(matcher.group(1) + "}");
                holds("at most sixty lines: " + lines.get(i).trim(), end >= 0 && end < 60);
            }
        }
        holds("one file: " + Arrays.toString(SOURCE.getParent().toFile().list()), SOURCE.getParent().toFile().list().length == 1);
    }
}
