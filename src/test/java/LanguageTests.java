import java.lang.reflect.Field;
import java.lang.reflect.Method;
import java.lang.reflect.Modifier;
import java.nio.file.Files;
import java.nio.file.Path;
import java.util.ArrayList;
import java.util.List;
import java.util.Set;
import java.util.regex.Matcher;
import java.util.regex.Pattern;

/** The rules of LANGUAGE.md that can be seen in the class file and in its source without reading it as Java. */
public final class LanguageTests extends Checks {
    private static final Set<String> LIBRARY =
            Set.of("java.util.Arrays", "java.util.ArrayList", "java.util.List", "java.util.Iterator");
    private static final Set<String> EXCEPTIONS = Set.of("IllegalStateException", "IllegalArgumentException",
            "IndexOutOfBoundsException", "ArithmeticException", "UnsupportedOperationException",
            "NoSuchElementException", "RuntimeException");
    private static final Set<Class<?>> CONSTANTS = Set.of(int.class, long.class, boolean.class, char.class,
            String.class, int[].class, long[].class, char[].class, byte[].class);

    /** The source with a blank for each character of a comment, so that lines and places stay. */
    private static String withoutComments(String source) {
        Matcher comment = Pattern.compile("//[^\n]*|/\\*.*?\\*/", Pattern.DOTALL).matcher(source);
        return comment.replaceAll(found -> found.group().replaceAll("[^\n]", " "));
    }

    private static void dueNowhere(String source, String what, String pattern) {
        Matcher found = Pattern.compile(pattern).matcher(source);
        due(what, () -> found.find() ? found.group() : "nowhere", "nowhere");
    }

    private static List<Class<?>> classes() {
        List<Class<?>> all = new ArrayList<>(List.of(FaultRules.class));
        for (int k = 0; k < all.size(); k++) {
            all.addAll(List.of(all.get(k).getDeclaredClasses()));
        }
        return all;
    }

    private static void rule1and2Classes() {
        about("Rules 1 and 2, the classes inside");
        for (Class<?> one : classes()) {
            int kind = one.getModifiers();
            boolean isFace = one == FaultRules.class;
            due(one + " is public", () -> Modifier.isPublic(kind), isFace);
            due(one + " is protected", () -> Modifier.isProtected(kind), false);
            due(one + " is static", () -> Modifier.isStatic(kind), !isFace);
        }
    }

    private static void rule2to6Words(String source) {
        about("Rules 2 to 6, what stands nowhere");
        dueNowhere(source, "lambda or method reference", "->|::");
        dueNowhere(source, "words that are not used",
                "\\b(package|finally|synchronized|assert|try|volatile|transient|native|var|hashCode|toString)\\b");
        dueNowhere(source, "functions that end in Exact", "\\w+Exact\\b");
        dueNowhere(source, "static blocks", "\\bstatic\\s*\\{");
        Matcher imported = Pattern.compile("import\\s+([^;]*);").matcher(source);
        while (imported.find()) {
            String name = imported.group(1);
            due("import of " + name, () -> LIBRARY.contains(name), true);
        }
    }

    private static void rule5Statics() {
        about("Rule 5, static fields");
        for (Class<?> one : classes()) {
            for (Field field : one.getDeclaredFields()) {
                if (Modifier.isStatic(field.getModifiers())) {
                    due(field + " is final", () -> Modifier.isFinal(field.getModifiers()), true);
                    due(field + " is a constant", () -> CONSTANTS.contains(field.getType()), true);
                }
            }
        }
    }

    private static void rule6Throws(String source) {
        about("Rule 6, exceptions");
        Matcher thrown = Pattern.compile("\\bthrow\\b([^;]*);").matcher(source);
        Pattern form = Pattern.compile("\\s+new\\s+(\\w+)\\((\"[^\"]*\")?\\)");
        while (thrown.find()) {
            Matcher one = form.matcher(thrown.group(1));
            due(thrown.group(), () -> one.matches() && EXCEPTIONS.contains(one.group(1)), true);
        }
    }

    private static void rule11Sizes(String source) {
        about("Rule 11, sizes");
        due("at most twelve classes", () -> classes().size() <= 12, true);
        for (Class<?> one : classes()) {
            int fields = 0;
            for (Field field : one.getDeclaredFields()) {
                fields += Modifier.isStatic(field.getModifiers()) ? 0 : 1;
            }
            int count = fields;
            due(one + " has at most twenty fields", () -> count <= 20, true);
            for (Method method : one.getDeclaredMethods()) {
                due(method + " has at most seven parameters", () -> method.getParameterCount() <= 7, true);
            }
        }
        dueShortMethods(source);
    }

    /** A method begins with a line that ends in a brace behind its parameters, and ends with a brace as far in. */
    private static void dueShortMethods(String source) {
        Pattern method = Pattern.compile("(?m)^( +)(?:(?:public|private|static) )*(?!public|private|static)"
                + "[\\w\\[\\]]+ (\\w+)\\([^{};]*\\{\n((?:(?:\\1 .*)?\n)*)\\1\\}");
        Matcher found = method.matcher(source);
        int methods = 0;
        while (found.find()) {
            methods++;
            int lines = found.group(3).split("\n", -1).length + 1;
            due(found.group(2) + " has at most sixty lines", () -> lines <= 60, true);
        }
        int all = methods;
        int declared = 0;
        for (Class<?> one : classes()) {
            declared += one.getDeclaredMethods().length;
        }
        due("methods found in the source", () -> all, declared);
    }

    public static void main(String[] args) throws Exception {
        String source = withoutComments(Files.readString(Path.of("src/main/java/FaultRules.java")));
        rule1and2Classes();
        rule2to6Words(source);
        rule5Statics();
        rule6Throws(source);
        rule11Sizes(source);
        finish();
    }
}
