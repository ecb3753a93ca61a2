import java.lang.reflect.InvocationTargetException;
import java.lang.reflect.Method;
import java.lang.reflect.Modifier;
import java.util.ArrayList;
import java.util.List;

/** Long runs of calls, each made of Slugwire and of the model: both answer the same. */
public final class ModelTest {
    private static final int RUNS = 400;
    private static final int CALLS = 512;

    /**
     * Calls with the bounds of their arguments: numbers, or what stands for those that there are, SOURCE, STORY, TAKE,
     * RECENT (a TAKE of the last few) or LINE. A call that stands more often is made more often.
     */
    private static final String[] TELLING = {
        "source 1,2 NONE,SOURCE", "source 1,3 NONE,SOURCE", "story", "line 1,60 0,9", "line 1,9 0,4"};
    private static final String[] CHANGING = {
        "report SOURCE STORY 0,3 0,99", "report SOURCE STORY 0,3 49,51", "report SOURCE STORY 0,3 49,51",
        "report SOURCE 0,0 0,3 0,1", "report SOURCE 0,0 0,3 50,51", "report SOURCE 0,0 0,1 50,51",
        "retract SOURCE STORY 0,3", "retract SOURCE 0,0 0,3", "retract SOURCE 0,0 0,1",
        "rival STORY 0,3", "rival 0,0 0,3", "down LINE 0,99", "down LINE 0,4", "down LINE 0,0",
        "file STORY 0,0 1,15 0,1 0,0", "file STORY 3,4 1,15 0,1 0,300", "file STORY 0,4 1,15 0,1 0,50",
        "file 0,0 0,0 1,2 1,1 0,0", "file 0,0 0,0 1,2 0,0 0,0", "file 0,0 3,4 1,15 1,1 0,0", "file 0,0 3,4 1,3 0,0 0,90",
        "file 0,0 4,4 1,15 1,1 0,9999",
        "correct TAKE 0,3", "correct RECENT 0,3", "correct RECENT 0,1", "correct RECENT 0,1", "kill TAKE", "kill RECENT",
        "pass 1,1", "pass 1,1", "pass 1,3", "pass 1,3", "pass 1,9", "pass 1,99"};
    private static final String[] ASKING = {
        "areIndependent SOURCE SOURCE", "ofFact STORY 0,3 0,6", "ofFact 0,0 0,3 0,6", "proof STORY 0,3 0,99 0,1",
        "proof 0,0 0,3 49,51 0,1", "ofTake TAKE 0,8", "says TAKE 0,3", "state LINE TAKE", "state LINE RECENT",
        "tells LINE STORY 0,3", "tells LINE 0,0 0,3", "ofLine LINE 0,7", "many 0,10", "meanDelay",
        "arrives LINE TAKE", "arrives LINE RECENT", "wouldArrive LINE 0,4 1,200", "wouldArrive LINE 0,4 1,30",
        "needs STORY 0,3 0,99 1,3", "needs 0,0 0,3 49,51 1,3", "lead STORY 0,99", "lead 0,0 30,80", "digest"};

    private static long seed;

    private ModelTest() {
    }

    public static void main(String[] args) {
        for (int run = 0; run < RUNS; run++) {
            seed = run * 7919L + 1;
            compareRun(run);
        }
        Check.end();
    }

    private static void compareRun(int run) {
        Slugwire program = new Slugwire();
        Model model = new Model();
        List<String> log = new ArrayList<>();
        for (int n = 0; n < CALLS; n++) {
            String[] form = formOf(run, n).split(" ");
            Object[] arguments = argumentsOf(form, model);
            String got = answer(program, form[0], arguments);
            String want = answer(model, form[0], arguments);
            String call = form[0] + List.of(arguments);
            log.add(call + " = " + want);
            Check.due("run " + run + ": " + call + " is as in the model", got.equals(want), true);
            if (!got.equals(want)) {
                System.out.println(String.join("\n", log) + "\nSlugwire answered " + got);
                return;
            }
        }
        Check.due("run " + run + ": digest at the end", program.digest(), model.digest());
    }

    /** Runs differ: in how much is told ahead, in how often something is changed, and a few run out of time. */
    private static String formOf(int run, int call) {
        int told = run % 4 * 10;
        if (call < told || below(50) == 0) {
            return pick(TELLING);
        }
        if (run % 10 == 9 && below(3) != 0) {
            return "pass 50,99";
        }
        return below(10) < 4 + run % 6 ? pick(CHANGING) : pick(ASKING);
    }

    private static Object[] argumentsOf(String[] form, Model model) {
        Object[] arguments = new Object[form.length - 1];
        for (int i = 0; i < arguments.length; i++) {
            String[] bounds = form[i + 1].split(",");
            int low = bounds.length == 1 ? lowest(bounds[0], model) : bound(bounds[0], model);
            int high = bound(bounds[bounds.length - 1], model);
            arguments[i] = low + below(Math.max(1, high - low + 1));
            if (below(100) == 0) {
                int[] wrong = {low - 1, high + 1, high + 2, -1, -2, 0, Integer.MIN_VALUE, Integer.MAX_VALUE};
                arguments[i] = wrong[below(wrong.length)];
            }
        }
        return arguments;
    }

    private static int lowest(String word, Model model) {
        return word.equals("RECENT") ? Math.max(0, model.many(4) - 5) : 0;
    }

    private static int bound(String word, Model model) {
        switch (word) {
            case "NONE": return -1;
            case "SOURCE": return model.many(1) - 1;
            case "STORY": return model.many(2) - 1;
            case "LINE": return model.many(3) - 1;
            case "TAKE":
            case "RECENT": return model.many(4) - 1;
            default: return Integer.parseInt(word);
        }
    }

    private static String answer(Object target, String name, Object[] arguments) {
        for (Method m : target.getClass().getDeclaredMethods()) {
            boolean isPrivate = Modifier.isPrivate(m.getModifiers());
            if (!isPrivate && m.getName().equals(name) && m.getParameterCount() == arguments.length) {
                return answer(target, m, arguments);
            }
        }
        throw new IllegalStateException("no method " + name);
    }

    private static String answer(Object target, Method m, Object[] arguments) {
        Object[] fitting = arguments.clone();
        for (int i = 0; i < fitting.length; i++) {
            if (m.getParameterTypes()[i] == boolean.class) {
                fitting[i] = (Integer) fitting[i] % 2 != 0;
            }
        }
        try {
            return String.valueOf(m.invoke(target, fitting));
        } catch (InvocationTargetException e) {
            return e.getCause().getClass().getName();
        } catch (IllegalAccessException e) {
            throw new IllegalStateException(e);
        }
    }

    private static String pick(String[] forms) {
        return forms[below(forms.length)];
    }

    /** A generator of its own, so that each run is the same everywhere and always. */
    private static int below(int bound) {
        seed = seed * 6364136223846793005L + 1442695040888963407L;
        return (int) ((seed >>> 33) % bound);
    }
}
