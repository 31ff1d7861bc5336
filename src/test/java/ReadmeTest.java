import java.io.IOException;
import java.lang.reflect.Method;
import java.nio.file.Files;
import java.nio.file.Path;
import java.util.Set;
import java.util.TreeSet;
import java.util.regex.Matcher;
import java.util.regex.Pattern;

/** Makes the calls that README.md shows: each answer there is the one that the class gives, and no call is left out. */
public final class ReadmeTest {
    private static final Pattern NEW_OBJECT = Pattern.compile("FunctionRoom room = new FunctionRoom\\((-?\\d+)\\);");
    private static final Pattern CALL = Pattern.compile("room\\.(\\w+)\\((.*)\\);\\s+// ([^\\s:]+)(: .+)?");

    private static final Set<String> shown = new TreeSet<>();
    private static FunctionRoom room = null;

    public static void main(String[] args) throws IOException, ReflectiveOperationException {
        boolean inExample = false;
        for (String line : Files.readAllLines(Path.of("README.md"))) {
            if (line.startsWith("```")) {
                inExample = line.equals("```java");
            } else if (inExample && !line.isBlank()) {
                follow(line);
            }
        }
        Check.due("the calls that README.md shows", shown.toString(), publicCalls().toString());
        constantsAreTold();
        Check.end();
    }

    /** A line of another form would show an answer that nobody looks at. */
    private static void follow(String line) throws ReflectiveOperationException {
        Matcher made = NEW_OBJECT.matcher(line);
        Matcher call = CALL.matcher(line);
        if (made.matches()) {
            room = new FunctionRoom(Integer.parseInt(made.group(1)));
        } else if (call.matches() && room != null) {
            shown.add(call.group(1));
            Check.due("README.md: " + line, answer(call.group(1), call.group(2).split(", ")), call.group(3));
        } else {
            Check.due("README.md: " + line, "no call with its answer", "a call with its answer");
        }
    }

    private static String answer(String name, String[] written) throws ReflectiveOperationException {
        Method method = publicCall(name);
        Class<?>[] types = method.getParameterTypes();
        if (types.length != written.length) {
            return "not, as it takes " + types.length + " values";
        }
        Object[] values = new Object[written.length];
        for (int i = 0; i < values.length; i++) {
            values[i] = types[i] == boolean.class ? (Object) written[i].equals("true") : Integer.valueOf(written[i]);
        }
        return named(method.invoke(room, values));
    }

    private static String named(Object answer) {
        if (answer.equals(FunctionRoom.REFUSED)) {
            return "REFUSED";
        }
        return answer.equals(FunctionRoom.NONE) ? "NONE" : answer.toString();
    }

    private static Method publicCall(String name) throws NoSuchMethodException {
        for (Method method : FunctionRoom.class.getMethods()) {
            if (method.getName().equals(name)) {
                return method;
            }
        }
        throw new NoSuchMethodException("README.md shows " + name);
    }

    private static Set<String> publicCalls() {
        Set<String> names = new TreeSet<>();
        for (Method method : FunctionRoom.class.getMethods()) {
            if (method.getDeclaringClass() == FunctionRoom.class) {
                names.add(method.getName());
            }
        }
        return names;
    }

    private static void constantsAreTold() throws IOException {
        String text = Files.readString(Path.of("README.md"));
        String refused = "`FunctionRoom.REFUSED` (" + FunctionRoom.REFUSED + ")";
        String none = "`FunctionRoom.NONE` (" + FunctionRoom.NONE + ")";
        Check.due("README.md tells " + refused, text.contains(refused), true);
        Check.due("README.md tells " + none, text.contains(none), true);
    }
}
