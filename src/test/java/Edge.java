import java.util.ArrayList;
import java.util.List;
import java.util.TreeMap;

/**
 * The test of one sentence of the document that names an edge: calls on a new object, and what is due. Every one says
 * its promise (0 for what stands ahead of promise 1) and its sentence, in the document's own words.
 */
final class Edge {
    static final String INDEX = "throws.IndexOutOfBoundsException";
    static final String ARGUMENT = "throws.IllegalArgumentException";
    static final String STATE = "throws.IllegalStateException";
    static final int TERMS = 0;

    /** What may be done to any house: a call that was refused, but has left something, shows in these at last. */
    private static final List<Call> AFTERWARDS = Call.all("pass(1); story(); source(2, 0); source(3, NONE); line(9, 1);"
        + "report(0, 0, 0, 50); report(1, 0, 0, 51); report(1, 0, 3, 2); rival(0, 1); rival(0, 0);"
        + "file(0, 0, 1, true, 0); file(0, 3, 9, true, 0); file(0, 4, 15, false, 0); pass(2); digest();"
        + "report(0, 0, 0, 60); report(0, 0, 3, 60); correct(0, 0); correct(0, 3); correct(1, 0); kill(0); kill(1);"
        + "pass(3); digest(); meanDelay(); kill(2); down(0, 2); retract(0, 0, 0); retract(1, 0, 0); retract(1, 0, 3);"
        + "rival(0, 2); pass(40); digest(); meanDelay(); pass(99); digest(); meanDelay()");

    /** The quotes of all tests that were made, by their promise. */
    private static final TreeMap<Integer, List<String>> QUOTES = new TreeMap<>();

    private final String name;
    private final Slugwire x = new Slugwire();
    private final List<Call> toldAndDone = new ArrayList<>();
    private int calls;
    private Run asBefore;
    private List<String> answersBefore;

    private Edge(String name) {
        this.name = name;
    }

    static Edge of(int promise, String sentence) {
        QUOTES.computeIfAbsent(promise, p -> new ArrayList<>()).add(sentence);
        return new Edge((promise == TERMS ? "Terms" : "promise " + promise) + ", \"" + sentence + "\": ");
    }

    static List<String> quotes(int promise) {
        return QUOTES.getOrDefault(promise, List.of());
    }

    private String make(Call call) {
        calls++;
        if (calls > Run.MOST_CALLS) {
            throw new IllegalStateException(name + "the test makes more than 512 calls of an object");
        }
        if (call.isToldOrDone()) {
            toldAndDone.add(call);
            answersBefore = null;
        }
        return call.on(x);
    }

    /** Calls that come ahead of what is tested, and are to be fine. */
    Edge given(String texts) {
        for (Call call : Call.all(texts)) {
            String answer = make(call);
            if (answer.startsWith("throws") || answer.equals("-2") || answer.equals("-3")) {
                Check.miss(name + call + ", which comes ahead, answered " + answer);
            }
        }
        return this;
    }

    Edge given(int times, String texts) {
        for (int i = 0; i < times; i++) {
            given(texts);
        }
        return this;
    }

    Edge due(String text, String want) {
        Check.dueText(name + text, make(Call.of(text)), want);
        return this;
    }

    Edge due(String text, long want) {
        return due(text, String.valueOf(want));
    }

    Edge due(String text, boolean want) {
        return due(text, String.valueOf(want));
    }

    Edge dueExactly(String text, double want) {
        return due(text, String.valueOf(want));
    }

    /** All of these have the same answer. */
    Edge dueEach(String texts, long want) {
        for (Call call : Call.all(texts)) {
            due(call.text, want);
        }
        return this;
    }

    /** Each of these throws just that, none below it, and leaves every answer as it was. */
    Edge refuses(String exception, String texts) {
        for (Call call : Call.all(texts)) {
            leaves(call.text, exception);
        }
        return this;
    }

    /** What was told and done up to now. */
    Run soFar() {
        return new Run(toldAndDone);
    }

    /** It answers that, and leaves every answer as it was. */
    Edge leaves(String text, long want) {
        return leaves(text, String.valueOf(want));
    }

    private Edge leaves(String text, String want) {
        Call call = Call.of(text);
        if (answersBefore == null) {
            asBefore = soFar();
            answersBefore = asBefore.answers(Every.question(asBefore));
        }
        Run behind = asBefore.and(List.of(call));
        Check.dueText(name + text, asBefore.answer(text), want);
        compare(text, Every.question(asBefore), behind.answers(Every.question(asBefore)), answersBefore);
        compare(text + " and more", AFTERWARDS, behind.goOn(AFTERWARDS), asBefore.goOn(AFTERWARDS));
        return this;
    }

    private void compare(String text, List<Call> questions, List<String> got, List<String> want) {
        for (int i = 0; i < questions.size(); i++) {
            if (!got.get(i).equals(want.get(i))) {
                Check.dueText(name + questions.get(i) + " behind " + text, got.get(i), want.get(i));
                return;
            }
        }
        Check.dueText(name + "every answer behind " + text, "as before", "as before");
    }
}
