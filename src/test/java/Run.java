import java.util.ArrayList;
import java.util.List;

/**
 * Calls on a new object, one behind the other, that can be made once more on another new object. So questions without
 * number can be asked behind them, though an object is good for 512 calls alone.
 */
final class Run {
    static final int MOST_CALLS = 512;

    private final List<Call> calls;

    Run(List<Call> calls) {
        this.calls = new ArrayList<>(calls);
        if (calls.size() >= MOST_CALLS) {
            throw new IllegalArgumentException("a run of " + calls.size() + " calls leaves no question");
        }
    }

    Run and(List<Call> more) {
        List<Call> all = new ArrayList<>(calls);
        all.addAll(more);
        return new Run(all);
    }

    private Slugwire made() {
        Slugwire x = new Slugwire();
        for (Call call : calls) {
            call.on(x);
        }
        return x;
    }

    /** What each of these answers behind the run; they are asked of as many new objects as it takes. */
    List<String> answers(List<Call> questions) {
        List<String> answers = new ArrayList<>();
        Slugwire x = made();
        int made = calls.size();
        for (Call question : questions) {
            if (made == MOST_CALLS) {
                x = made();
                made = calls.size();
            }
            answers.add(question.on(x));
            made++;
        }
        return answers;
    }

    String answer(String question) {
        return answers(List.of(Call.of(question))).get(0);
    }

    /** What each of these answers, one behind the other on one object, behind the run. */
    List<String> goOn(List<Call> more) {
        if (calls.size() + more.size() > MOST_CALLS) {
            throw new IllegalArgumentException("a run of " + (calls.size() + more.size()) + " calls");
        }
        List<String> answers = new ArrayList<>();
        Slugwire x = made();
        for (Call call : more) {
            answers.add(call.on(x));
        }
        return answers;
    }
}
