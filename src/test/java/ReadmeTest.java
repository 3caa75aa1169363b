import java.lang.reflect.Method;
import java.nio.file.Files;
import java.nio.file.Path;
import java.util.Set;
import java.util.TreeSet;
import java.util.regex.Matcher;
import java.util.regex.Pattern;

/** Makes the calls that README.md shows, in their order on one object, and looks whether the answers are so. */
public final class ReadmeTest {
    private static final Pattern NEW_OBJECT = Pattern.compile("CasketLines x = new CasketLines\\(\\);");
    private static final Pattern TEXT = Pattern.compile(
        "for \\(char letter : \"(\\w*)\"\\.toCharArray\\(\\)\\) x\\.write\\(letter\\);");
    private static final Pattern CALL = Pattern.compile(
        "x\\.(\\w+)\\(([^)]*)\\);\\s+// (-?\\d+)(, ([A-Z]+))?\\b.*");

    private static CasketLines x = null;
    private static int calls = 0;
    private static final Set<String> shown = new TreeSet<>();

    private ReadmeTest() {
    }

    public static void main(String[] args) throws Exception {
        boolean inside = false;
        for (String line : Files.readAllLines(Path.of("README.md"))) {
            if (line.startsWith("```")) {
                inside = line.equals("```java");
            } else if (inside) {
                follow(line);
            }
        }
        for (String call : PlainRun.CALLS) {
            Due.is("README.md shows " + call, 1, shown.contains(call) ? 1 : 0);
        }
        Due.is("an object is good for 512 calls, README.md makes fewer (" + calls + ")", 1, calls <= 512 ? 1 : 0);
        Due.end();
    }

    private static void follow(String line) throws Exception {
        Matcher text = TEXT.matcher(line);
        Matcher call = CALL.matcher(line);
        if (NEW_OBJECT.matcher(line).matches()) {
            x = new CasketLines();
        } else if (text.matches()) {
            Due.write(x, text.group(1));
            calls += text.group(1).length();
            shown.add("write");
        } else if (call.matches()) {
            Due.is("README.md: " + line, Long.parseLong(call.group(3)), answer(call.group(1), call.group(2)));
            constant(line, call);
        } else {
            Due.is("README.md has a line without an answer: " + line, 1, 0);
        }
    }

    /** Where an answer is told with a name, it is that of the constant. */
    private static void constant(String line, Matcher call) throws Exception {
        if (call.group(5) != null) {
            int named = CasketLines.class.getField(call.group(5)).getInt(null);
            Due.is("README.md, the name: " + line, named, Long.parseLong(call.group(3)));
        }
    }

    private static long answer(String name, String told) throws Exception {
        calls++;
        shown.add(name);
        for (Method method : CasketLines.class.getMethods()) {
            if (method.getName().equals(name)) {
                return ((Number) method.invoke(x, arguments(method.getParameterTypes(), told))).longValue();
            }
        }
        throw new IllegalArgumentException("there is no call " + name);
    }

    private static Object[] arguments(Class<?>[] types, String told) {
        String[] parts = told.isEmpty() ? new String[0] : told.split(", ");
        if (parts.length != types.length) {
            throw new IllegalArgumentException(told + " are not " + types.length + " arguments");
        }
        Object[] values = new Object[types.length];
        for (int i = 0; i < types.length; i++) {
            if (types[i] == boolean.class) {
                values[i] = Boolean.valueOf(parts[i]);
            } else if (types[i] == long.class) {
                values[i] = Long.valueOf(parts[i]);
            } else {
                values[i] = Integer.valueOf(parts[i]);
            }
        }
        return values;
    }
}
