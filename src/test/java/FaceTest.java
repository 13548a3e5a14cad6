import java.lang.reflect.Constructor;
import java.lang.reflect.Field;
import java.lang.reflect.Method;
import java.lang.reflect.Modifier;
import java.util.Arrays;
import java.util.TreeSet;

/** The public face: just the members of the document, and nothing else that can be seen. */
public final class FaceTest {
    private static final String[] FACE = {
        "int feed(int, int, int, int, int)", "int shop(int)", "int fault()", "int where()",
        "boolean rod(boolean)", "int drill(int)", "int inch(int, int)", "int state(int)",
        "int odds(int, int)", "int rows(int)", "int cheapest(int, int)", "int feedAt(int)",
        "int met(int)", "int meet()", "int felt(int, int)", "int forget()", "int causes()",
        "int cause(int, int)", "int sure(int)", "int off(int, boolean)", "int ring(int)",
        "int sees(int)", "int blow(int, int, int)", "int fewest(int, int)", "int stroke(int)",
        "int heat()", "int about()", "boolean wall(int, int, int)", "int clear()",
        "int lies(int, int, boolean)", "int next(int)", "int led(int)", "int trouble()"};

    public static void main(String[] args) throws Exception {
        TreeSet<String> due = new TreeSet<>(Arrays.asList(FACE));
        TreeSet<String> names = new TreeSet<>();
        for (Method m : DeepHole.class.getDeclaredMethods()) {
            if (Modifier.isPrivate(m.getModifiers())) {
                continue;
            }
            Check.due("public: " + m, Modifier.isPublic(m.getModifiers()), true);
            Check.due("not static: " + m, Modifier.isStatic(m.getModifiers()), false);
            Check.due("in the face: " + m, due.remove(told(m)), true);
            names.add(m.getName());
        }
        Check.due("missing: " + due, due.size(), 0);
        Check.due("led's exception", DeepHole.class.getMethod("led", int.class)
            .getExceptionTypes()[0] == java.util.NoSuchElementException.class, true);
        for (Field f : DeepHole.class.getDeclaredFields()) {
            boolean isFace = f.getName().equals("NONE");
            Check.due("field " + f, Modifier.isPublic(f.getModifiers()), isFace);
            Check.due("field " + f, Modifier.isPrivate(f.getModifiers()), !isFace);
        }
        Constructor<?>[] made = DeepHole.class.getDeclaredConstructors();
        Check.due("constructors", made.length, 1);
        Check.due("its parameters", made[0].getParameterCount(), 0);
        Check.due("final", Modifier.isFinal(DeepHole.class.getModifiers()), true);
        inside(names);
        Check.end("FaceTest");
    }

    /** Classes inside are static, not public, few, small, and no method in them bears a name of the face. */
    private static void inside(TreeSet<String> names) {
        Class<?>[] all = DeepHole.class.getDeclaredClasses();
        Check.due("classes", all.length < 12, true);
        for (Class<?> c : all) {
            Check.due("static: " + c, Modifier.isStatic(c.getModifiers()), true);
            Check.due("public: " + c, Modifier.isPublic(c.getModifiers()), false);
            int fields = 0;
            for (Field f : c.getDeclaredFields()) {
                fields += Modifier.isStatic(f.getModifiers()) ? 0 : 1;
            }
            Check.due("fields of " + c, fields <= 20, true);
            for (Method m : c.getDeclaredMethods()) {
                Check.due("name of " + m, names.contains(m.getName()), false);
                Check.due("parameters of " + m, m.getParameterCount() <= 7, true);
            }
        }
        for (Method m : DeepHole.class.getDeclaredMethods()) {
            if (Modifier.isPrivate(m.getModifiers())) {
                Check.due("name of " + m, names.contains(m.getName()), false);
            }
        }
    }

    private static String told(Method m) {
        StringBuilder sb = new StringBuilder();
        sb.append(m.getReturnType().getName()).append(' ').append(m.getName()).append('(');
        for (Class<?> p : m.getParameterTypes()) {
            sb.append(sb.charAt(sb.length() - 1) == '(' ? "" : ", ").append(p.getName());
        }
        return sb.append(')').toString();
    }
}
