import java.lang.reflect.Constructor;
import java.lang.reflect.Field;
import java.lang.reflect.Method;
import java.lang.reflect.Modifier;
import java.util.ArrayList;
import java.util.Arrays;
import java.util.List;
import java.util.TreeSet;

/** The public face, as the document has it, and nothing beside it. */
public final class FaceTest {
    private static final String INDEX = "IndexOutOfBoundsException";
    private static final String ARGUMENT = "IllegalArgumentException";
    private static final String STATE = "IllegalStateException";
    private static final String[] FACE = {
        "int source(int, int) " + INDEX + " " + ARGUMENT + " " + STATE,
        "int story() " + STATE,
        "int line(int, int) " + ARGUMENT + " " + STATE,
        "int report(int, int, int, int) " + INDEX + " " + ARGUMENT,
        "int retract(int, int, int) " + INDEX + " " + STATE,
        "boolean rival(int, int) " + INDEX,
        "int down(int, int) " + INDEX + " " + ARGUMENT,
        "int file(int, int, int, boolean, int) " + INDEX + " " + ARGUMENT + " " + STATE,
        "int correct(int, int) " + INDEX + " " + ARGUMENT + " " + STATE,
        "int kill(int) " + INDEX + " " + STATE,
        "int pass(int) " + ARGUMENT + " " + STATE,
        "boolean areIndependent(int, int) " + INDEX,
        "int ofFact(int, int, int) " + INDEX + " " + ARGUMENT,
        "int proof(int, int, int, boolean) " + INDEX + " " + ARGUMENT,
        "int ofTake(int, int) " + INDEX + " " + ARGUMENT,
        "int says(int, int) " + INDEX,
        "int state(int, int) " + INDEX,
        "int tells(int, int, int) " + INDEX,
        "int ofLine(int, int) " + INDEX + " " + ARGUMENT,
        "int many(int) " + ARGUMENT,
        "double meanDelay()",
        "int arrives(int, int) " + INDEX,
        "int wouldArrive(int, int, int) " + INDEX + " " + ARGUMENT,
        "int needs(int, int, int, int) " + INDEX + " " + ARGUMENT,
        "int lead(int, int) " + INDEX + " " + ARGUMENT,
        "long digest()"};

    private FaceTest() {
    }

    public static void main(String[] args) {
        Class<?> c = Slugwire.class;
        Check.due("the class is public and final", c.getModifiers(), Modifier.PUBLIC | Modifier.FINAL);
        Constructor<?>[] made = c.getDeclaredConstructors();
        Check.due("constructors", made.length, 1);
        Check.due("the constructor is public", made[0].getModifiers(), Modifier.PUBLIC);
        Check.due("its parameters and exceptions", made[0].getParameterCount() + made[0].getExceptionTypes().length, 0);
        compareMethods(c);
        for (Field f : c.getDeclaredFields()) {
            Check.due("the field " + f.getName() + " is private", Modifier.isPrivate(f.getModifiers()), true);
        }
        for (Class<?> inner : c.getDeclaredClasses()) {
            Check.due("the class " + inner.getName() + " is static", Modifier.isStatic(inner.getModifiers()), true);
            Check.due("the class " + inner.getName() + " is not public", Modifier.isPublic(inner.getModifiers()), false);
            for (Method m : inner.getDeclaredMethods()) {
                Check.due(m + " bears the name of a call of the face", isCall(m.getName()), false);
            }
        }
        Check.end();
    }

    private static boolean isCall(String name) {
        for (String form : FACE) {
            if (form.substring(form.indexOf(' ') + 1, form.indexOf('(')).equals(name)) {
                return true;
            }
        }
        return false;
    }

    private static void compareMethods(Class<?> c) {
        TreeSet<String> due = new TreeSet<>(Arrays.asList(FACE));
        TreeSet<String> names = new TreeSet<>();
        List<Method> hidden = new ArrayList<>();
        for (Method m : c.getDeclaredMethods()) {
            if (Modifier.isPrivate(m.getModifiers())) {
                hidden.add(m);
            } else {
                String form = formOf(m);
                names.add(m.getName());
                Check.due(form + " is in the document", due.remove(form), true);
                Check.due(form + " is plainly public", m.getModifiers(), Modifier.PUBLIC);
            }
        }
        Check.due("missing: " + due, due.size(), 0);
        for (Method m : hidden) {
            Check.due("private " + m.getName() + " bears the name of a public one", names.contains(m.getName()), false);
        }
    }

    private static String formOf(Method m) {
        StringBuilder form = new StringBuilder();
        form.append(m.getReturnType().getName()).append(' ').append(m.getName()).append('(');
        for (Class<?> type : m.getParameterTypes()) {
            form.append(form.charAt(form.length() - 1) == '(' ? "" : ", ").append(type.getName());
        }
        form.append(')');
        for (Class<?> type : m.getExceptionTypes()) {
            form.append(' ').append(type.getSimpleName());
        }
        return form.toString();
    }
}
