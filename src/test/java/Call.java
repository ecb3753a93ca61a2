import java.lang.reflect.InvocationTargetException;
import java.lang.reflect.Method;
import java.util.ArrayList;
import java.util.HashMap;
import java.util.List;
import java.util.Map;
import java.util.Set;

/** One call of the face, read from its text, such as "source(2, NONE)". */
final class Call {
    private static final Map<String, Integer> WORDS =
        Map.of("NONE", -1, "MIN", Integer.MIN_VALUE, "MAX", Integer.MAX_VALUE);
    private static final Set<String> TOLD_OR_DONE = Set.of("source", "story", "line", "report", "retract", "rival",
        "down", "file", "correct", "kill", "pass");
    private static final Map<String, Method> FACE = face();

    final String text;
    private final Method method;
    private final Object[] arguments;

    private Call(String text, Method method, Object[] arguments) {
        this.text = text;
        this.method = method;
        this.arguments = arguments;
    }

    private static Map<String, Method> face() {
        Map<String, Method> face = new HashMap<>();
        for (Method m : Slugwire.class.getMethods()) {
            if (m.getDeclaringClass() == Slugwire.class) {
                face.put(m.getName(), m);
            }
        }
        return face;
    }

    static Call of(String text) {
        int bracket = text.indexOf('(');
        Method method = bracket < 0 ? null : FACE.get(text.substring(0, bracket));
        if (method == null || !text.endsWith(")")) {
            throw new IllegalArgumentException("no call of the face: " + text);
        }
        String inside = text.substring(bracket + 1, text.length() - 1);
        String[] words = inside.isEmpty() ? new String[0] : inside.split(", ");
        if (words.length != method.getParameterCount()) {
            throw new IllegalArgumentException("not as many arguments as it takes: " + text);
        }
        Object[] arguments = new Object[words.length];
        for (int i = 0; i < words.length; i++) {
            boolean isTruthValue = method.getParameterTypes()[i] == boolean.class;
            arguments[i] = isTruthValue ? (Object) truthOf(words[i]) : (Object) numberOf(words[i]);
        }
        return new Call(text, method, arguments);
    }

    /** Calls that stand one behind the other, with "; " between them. */
    static List<Call> all(String texts) {
        List<Call> calls = new ArrayList<>();
        for (String text : texts.split(";")) {
            calls.add(of(text.trim()));
        }
        return calls;
    }

    private static boolean truthOf(String word) {
        if (!word.equals("true") && !word.equals("false")) {
            throw new IllegalArgumentException("neither true nor false: " + word);
        }
        return word.equals("true");
    }

    private static int numberOf(String word) {
        return WORDS.containsKey(word) ? WORDS.get(word) : Integer.parseInt(word);
    }

    boolean isToldOrDone() {
        return TOLD_OR_DONE.contains(method.getName());
    }

    /** The answer, or "throws." and the name of what it throws. */
    String on(Slugwire x) {
        try {
            return String.valueOf(method.invoke(x, arguments));
        } catch (InvocationTargetException e) {
            return "throws." + e.getCause().getClass().getSimpleName();
        } catch (IllegalAccessException e) {
            throw new IllegalStateException(e);
        }
    }

    @Override
    public String toString() {
        return text;
    }
}
