import java.io.IOException;
import java.lang.reflect.InvocationTargetException;
import java.lang.reflect.Method;
import java.nio.file.Files;
import java.nio.file.Path;
import java.util.Set;
import java.util.TreeSet;
import java.util.regex.Matcher;
import java.util.regex.Pattern;

/** Each call that README.md shows must answer what stands behind it there, and each method must be shown. */
final class ReadmeTest {
    private static final Pattern CALL = Pattern.compile("mixer\\.(\\w+)\\((.*)\\);\\s*// ([^:\\s]+).*");
    private static final String NEW = "VisionMixer mixer = new VisionMixer();";

    private VisionMixer mixer = new VisionMixer();
    private final Set<String> shown = new TreeSet<>();

    public static void main(String[] args) throws IOException {
        new ReadmeTest().run(Files.readString(Path.of("README.md")));
        Check.end();
    }

    private void run(String page) {
        boolean inside = false;
        for (String line : page.split("\n")) {
            if (line.startsWith("```")) {
                inside = line.equals("```java");
            } else if (inside && line.equals(NEW)) {
                mixer = new VisionMixer();
            } else if (inside) {
                look(line);
            }
        }
        Check.dueText("methods shown", shown.toString(), methods().toString());
        Check.due("tells how to run its tests", page.contains("`.ci/run`") ? 1 : 0, 1);
    }

    private void look(String line) {
        Matcher call = CALL.matcher(line);
        if (!call.matches()) {
            Check.dueText(line, "is not read", "a call and its answer");
            return;
        }
        shown.add(call.group(1));
        String answer = answer(call.group(1), call.group(2).isEmpty() ? new String[0] : call.group(2).split(", "));
        // the hash is told by no number
        if (!call.group(1).equals("digest")) {
            Check.dueText(line, answer, call.group(3));
        }
    }

    private String answer(String name, String[] arguments) {
        for (Method method : VisionMixer.class.getDeclaredMethods()) {
            if (method.getName().equals(name) && method.getParameterCount() == arguments.length) {
                return answer(method, arguments);
            }
        }
        return "no such method";
    }

    private String answer(Method method, String[] arguments) {
        Object[] values = new Object[arguments.length];
        for (int i = 0; i < values.length; i++) {
            values[i] = method.getParameterTypes()[i] == boolean.class
                ? (Object) Boolean.valueOf(arguments[i]) : (Object) number(arguments[i]);
        }
        try {
            return method.invoke(mixer, values).toString();
        } catch (InvocationTargetException e) {
            return e.getCause().getClass().getSimpleName();
        } catch (IllegalAccessException e) {
            return "not to be called";
        }
    }

    private static int number(String written) {
        return written.startsWith("'") ? written.charAt(1) : Integer.parseInt(written);
    }

    private static Set<String> methods() {
        Set<String> names = new TreeSet<>();
        for (Method method : VisionMixer.class.getMethods()) {
            if (method.getDeclaringClass() == VisionMixer.class) {
                names.add(method.getName());
            }
        }
        return names;
    }
}
