import java.lang.reflect.InvocationTargetException;
import java.lang.reflect.Method;
import java.lang.reflect.Modifier;
import java.nio.file.Files;
import java.nio.file.Path;
import java.util.List;
import java.util.Map;
import java.util.TreeMap;
import java.util.TreeSet;
import java.util.regex.Matcher;
import java.util.regex.Pattern;

/** The example of README.md: each of its calls is made, and answers what stands behind it. */
public final class ReadmeTests extends Checks {
    private static final Pattern CALL = Pattern.compile("x\\.(\\w+)\\(([^)]*)\\); +// ([^ :]+)(:.*)?");
    private static final Pattern TEXT = Pattern.compile("sayAll\\(x, \"([^\"]*)\"\\);");
    private static final Pattern OTHER = Pattern.compile("|// .*|FaultRules x = new FaultRules\\(\\);");

    /** The lines of the first block of Java. */
    private static List<String> example() throws Exception {
        List<String> lines = Files.readAllLines(Path.of("README.md"));
        List<String> behind = lines.subList(lines.indexOf("```java") + 1, lines.size());
        return behind.subList(0, behind.indexOf("```"));
    }

    private static Map<String, Method> face() {
        Map<String, Method> face = new TreeMap<>();
        for (Method method : FaultRules.class.getDeclaredMethods()) {
            if (Modifier.isPublic(method.getModifiers())) {
                face.put(method.getName(), method);
            }
        }
        return face;
    }

    private static Object called(FaultRules x, Method method, String written) throws Exception {
        String[] parts = written.isEmpty() ? new String[0] : written.split(", ");
        Object[] arguments = new Object[parts.length];
        for (int k = 0; k < parts.length; k++) {
            boolean isNumber = method.getParameterTypes()[k] == int.class;
            arguments[k] = isNumber ? (Object) Integer.valueOf(parts[k]) : (Object) Boolean.valueOf(parts[k]);
        }
        try {
            return method.invoke(x, arguments);
        } catch (InvocationTargetException e) {
            throw (Exception) e.getCause();
        }
    }

    public static void main(String[] args) throws Exception {
        about("README.md");
        FaultRules x = new FaultRules();
        Map<String, Method> face = face();
        TreeSet<String> shown = new TreeSet<>();
        for (String line : example()) {
            Matcher call = CALL.matcher(line);
            Matcher text = TEXT.matcher(line);
            if (call.matches()) {
                due(line, () -> called(x, face.get(call.group(1)), call.group(2)), call.group(3));
                shown.add(call.group(1));
            } else if (text.matches()) {
                sayAll(x, text.group(1));
                shown.add("say");
            } else {
                due("a line that is no call, whether it may stand: " + line, () -> OTHER.matcher(line).matches(), true);
            }
        }
        due("the calls that the example shows", () -> shown, face.keySet());
        finish();
    }
}
