import java.util.ArrayList;
import java.util.HashMap;
import java.util.List;
import java.util.Map;

/** Every question that an object answers, for so many sources, stories, lines and takes as it has. */
final class Every {
    private static final Map<String, List<Call>> KNOWN = new HashMap<>();

    private final List<Call> questions = new ArrayList<>();

    private Every() {
    }

    static List<Call> question(Run run) {
        int[] counts = new int[4];
        for (int i = 0; i < counts.length; i++) {
            counts[i] = Integer.parseInt(run.answer("many(" + (i + 1) + ")"));
        }
        String key = counts[0] + " " + counts[1] + " " + counts[2] + " " + counts[3];
        return KNOWN.computeIfAbsent(key, k -> all(counts[0], counts[1], counts[2], counts[3]));
    }

    private static List<Call> all(int sources, int stories, int lines, int takes) {
        Every every = new Every();
        every.ask("many", 11);
        every.ask("meanDelay");
        every.ask("areIndependent", sources, sources);
        every.ask("ofFact", stories, 4, 7);
        every.ask("proof", stories, 4, 100, -2);
        every.ask("needs", stories, 4, 100, 3);
        every.ask("lead", stories, 100);
        every.ask("ofTake", takes, 9);
        every.ask("says", takes, 4);
        every.ask("state", lines, takes);
        every.ask("arrives", lines, takes);
        every.ask("tells", lines, stories, 4);
        every.ask("ofLine", lines, 8);
        every.ask("wouldArrive", lines, 5, 200);
        every.ask("digest");
        return every.questions;
    }

    /** With each argument from 0 up to ahead of its bound; a bound of -2 stands for true and false. */
    private void ask(String name, int... bounds) {
        askFrom(name, bounds, 0, "");
    }

    private void askFrom(String name, int[] bounds, int place, String ahead) {
        if (place == bounds.length) {
            questions.add(Call.of(name + "(" + ahead + ")"));
            return;
        }
        String behind = place == 0 ? "" : ahead + ", ";
        for (int i = 0; i < Math.abs(bounds[place]); i++) {
            boolean isFromOne = place == bounds.length - 1 && (name.equals("needs") || name.equals("wouldArrive"));
            String argument = bounds[place] == -2 ? String.valueOf(i == 1) : String.valueOf(isFromOne ? i + 1 : i);
            askFrom(name, bounds, place + 1, behind + argument);
        }
    }
}
