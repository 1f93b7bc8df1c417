import java.io.IOException;
import java.lang.reflect.Field;
import java.lang.reflect.Method;
import java.lang.reflect.Modifier;
import java.nio.file.Files;
import java.nio.file.Path;
import java.util.Arrays;
import java.util.List;
import java.util.Set;
import java.util.TreeSet;
import java.util.regex.Matcher;
import java.util.regex.Pattern;

/**
 * What of LANGUAGE.md can be seen by looking at the class and its source. It is no test: it looks for patterns, which may
 * err, and whoever lands the class looks at LANGUAGE.md by other means. CI prints what it says.
 */
public final class LanguageReport {
    private static final Checks CHECKS = new Checks("LanguageReport");
    private static final Path SOURCE = Path.of("src/main/java/TurnSlots.java");

    public static void main(String[] args) throws IOException {
        insideClasses();
        words(code(Files.readString(SOURCE)));
        library(code(Files.readString(SOURCE)));
        lengths(Files.readAllLines(SOURCE));
        CHECKS.end();
    }

    private static void holds(String what, boolean holds) {
        CHECKS.due(what, holds ? 1 : 0, 1);
    }

    private static void insideClasses() {
        Class<?>[] classes = TurnSlots.class.getDeclaredClasses();
        holds("at most twelve classes", classes.length < 12);
        Set<String> names = new TreeSet<>();
        for (String signature : FaceTest.METHODS) {
            names.add(signature.substring(0, signature.indexOf('(')));
        }
        fieldsOf(TurnSlots.class);
        for (Class<?> inside : classes) {
            holds("static: " + inside, Modifier.isStatic(inside.getModifiers()));
            holds("not for others: " + inside, !Modifier.isPublic(inside.getModifiers()) && !Modifier.isProtected(inside.getModifiers()));
            fieldsOf(inside);
            for (Method method : inside.getDeclaredMethods()) {
                holds("no name of the face: " + method, !Modifier.isPrivate(method.getModifiers()) || !names.contains(method.getName()));
                holds("at most seven parameters: " + method, method.getParameterCount() <= 7);
            }
        }
        for (Method method : TurnSlots.class.getDeclaredMethods()) {
            holds("no name of the face: " + method, Modifier.isPublic(method.getModifiers()) || !names.contains(method.getName()));
        }
    }

    private static void fieldsOf(Class<?> type) {
        int fields = 0;
        for (Field field : type.getDeclaredFields()) {
            if (Modifier.isStatic(field.getModifiers())) {
                holds("static fields are final: " + field, Modifier.isFinal(field.getModifiers()));
                holds("static fields are constants: " + field, field.isEnumConstant() || areConstants(field.getType()));
            } else {
                fields++;
            }
        }
        holds("at most twenty fields: " + type, fields <= 20);
    }

    private static boolean areConstants(Class<?> type) {
        return Set.of("int", "long", "boolean", "char", "java.lang.String", "[I", "[J", "[C", "[B").contains(type.getName())
            || type.isArray() && type.getComponentType().isEnum();
    }

    /** The source without comments and texts. */
    private static String code(String source) {
        return source.replaceAll("(?s)/\\*.*?\\*/", " ").replaceAll("//[^\n]*", " ").replaceAll("\"[^\"]*\"", "\"\"").replaceAll("'.'", "' '");
    }

    private static void words(String code) {
        String[] words = {"throw", "throws", "try", "catch", "finally", "synchronized", "assert", "package", "volatile", "transient", "native",
            "hashCode", "getClass", "protected", "Object", "Thread", "Random"};
        for (String word : words) {
            holds("not in the language: " + word, !Pattern.compile("\\b" + word + "\\b").matcher(code).find());
        }
        holds("no lambda", !Pattern.compile("\\)\\s*->").matcher(code).find());
        holds("no method reference", !code.contains("::"));
        holds("no static block", !Pattern.compile("static\\s*\\{").matcher(code).find());
        holds("no joining of texts by +", !code.contains("\" +") && !code.contains("+ \""));
        holds("signs 1 to 127", code.chars().allMatch(sign -> sign > 0 && sign < 128));
        holds("no loop without a bound", !Pattern.compile("while \\(true\\)|for \\(;;\\)").matcher(code).find());
    }

    private static void library(String code) {
        Set<String> own = new TreeSet<>();
        own.add("TurnSlots");
        for (Class<?> inside : TurnSlots.class.getDeclaredClasses()) {
            own.add(inside.getSimpleName());
        }
        Matcher matcher = Pattern.compile("\\bimport ([\\w.]+)").matcher(code);
        while (matcher.find()) {
            holds("in the library: " + matcher.group(1),
                Set.of("java.util.ArrayList", "java.util.Arrays", "java.util.Iterator", "java.util.List").contains(matcher.group(1)));
        }
        matcher = Pattern.compile("\\b(Math|System|Arrays|Integer|Long|List|Character|String)\\.(\\w+)").matcher(code);
        while (matcher.find()) {
            holds("in the library: " + matcher.group(), isInTheLibrary(matcher.group(1), matcher.group(2)));
        }
        matcher = Pattern.compile("\\bnew (\\w+)").matcher(code);
        while (matcher.find()) {
            holds("may be made: " + matcher.group(), own.contains(matcher.group(1)) || Set.of("int", "long", "short", "byte", "char",
                "boolean", "double", "float", "String", "StringBuilder", "ArrayList").contains(matcher.group(1)));
        }
    }

    private static boolean isInTheLibrary(String type, String name) {
        switch (type) {
            case "Math": return !name.endsWith("Exact") && !name.equals("random");
            case "Integer": case "Long": return !name.startsWith("get") && !name.startsWith("parse");
            case "System": return name.equals("arraycopy");
            case "Arrays": return Set.of("copyOf", "copyOfRange", "fill").contains(name);
            case "List": return name.equals("of");
            default: return false;
        }
    }

    /** Methods are told by their indentation: four blanks in the class, eight in the classes inside it. */
    private static void lengths(List<String> lines) {
        Pattern head = Pattern.compile("( {4}| {8})(?!.*\\bclass\\b)\\S.*\\) \\{");
        for (int i = 0; i < lines.size(); i++) {
            Matcher matcher = head.matcher(lines.get(i));
            if (matcher.matches()) {
                int end = lines.subList(i, lines.size()).indexOf(matcher.group(1) + "}");
                holds("at most sixty lines: " + lines.get(i).trim(), end >= 0 && end < 60);
            }
        }
        holds("one file: " + Arrays.toString(SOURCE.getParent().toFile().list()), SOURCE.getParent().toFile().list().length == 1);
    }
}
