import java.lang.reflect.Constructor;
import java.lang.reflect.Field;
import java.lang.reflect.Method;
import java.lang.reflect.Modifier;
import java.util.Arrays;
import java.util.Set;
import java.util.TreeSet;

/** The public face: just what the document lists. */
final class FaceTest {
    private static final String[] DUE = {
        "int program(int)", "int preview(int)", "int transition(int,int)", "int next(int)",
        "int key(int,int,int,int)", "int toggle(int)", "int cut()", "int auto()", "int bar(int)",
        "int fault(int,boolean)", "int pass(int)", "int setting(int)", "int keyer(int,int)",
        "int share(int,boolean)", "int tally(int)", "double faulty()", "int settingAt(int,int)",
        "int shareAt(int,int)", "int timesRed(int)", "int firstRed(int)", "int longestShot()", "int runs()",
        "int act(int,int)", "int takeOut(int)", "int undo()", "int redWithout(int)", "int idle()",
        "int append(int)", "int clearText()", "int carryOut()", "long digest()",
    };

    public static void main(String[] args) {
        Check.dueText("the class", Modifier.toString(VisionMixer.class.getModifiers()), "public final");
        Check.due("NONE", VisionMixer.NONE, -1);
        Check.dueText("methods", methods().toString(), new TreeSet<>(Arrays.asList(DUE)).toString());
        Check.due("constructors", VisionMixer.class.getDeclaredConstructors().length, 1);
        for (Constructor<?> constructor : VisionMixer.class.getDeclaredConstructors()) {
            Check.dueText("constructor", constructor.toString(), "public VisionMixer()");
        }
        for (Field field : VisionMixer.class.getDeclaredFields()) {
            int open = field.getModifiers() & (Modifier.PUBLIC | Modifier.PRIVATE);
            int due = field.getName().equals("NONE") ? Modifier.PUBLIC : Modifier.PRIVATE;
            Check.due("who sees " + field, open, due);
            boolean changeable = Modifier.isStatic(field.getModifiers()) && !Modifier.isFinal(field.getModifiers());
            Check.due("static and not final: " + field, changeable ? 1 : 0, 0);
        }
        Check.end();
    }

    private static Set<String> methods() {
        Set<String> names = new TreeSet<>();
        Set<String> publicNames = new TreeSet<>();
        for (Method method : VisionMixer.class.getDeclaredMethods()) {
            if (Modifier.isPublic(method.getModifiers())) {
                publicNames.add(method.getName());
                names.add(signature(method));
            } else {
                Check.due("is private: " + method, Modifier.isPrivate(method.getModifiers()) ? 1 : 0, 1);
            }
        }
        for (Method method : VisionMixer.class.getDeclaredMethods()) {
            boolean both = !Modifier.isPublic(method.getModifiers()) && publicNames.contains(method.getName());
            Check.due("bears a public name: " + method, both ? 1 : 0, 0);
        }
        return names;
    }

    private static String signature(Method method) {
        StringBuilder text = new StringBuilder(method.getReturnType() + " " + method.getName() + "(");
        for (int i = 0; i < method.getParameterCount(); i++) {
            text.append(i > 0 ? "," : "").append(method.getParameterTypes()[i]);
        }
        return text.append(")").toString();
    }
}
