/** Promises 9 to 12: what is done. */
public final class DoneTest {

    private DoneTest() {
    }

    public static void main(String[] args) {
        file();
        fileWords();
        fileLacks();
        fileRefused();
        correct();
        correctRefused();
        kill();
        killOnSomeLines();
        killRefused();
        noRoom();
        pass();
        passByUrgency();
        passHeld();
        passRefused();
        Check.end();
    }

    /** A story with the facts 0 (value 10), 1 (11), 2 (12) true, 3 (13) only heard; sources 0 official, 1 unnamed. */
    private static Slugwire house() {
        Slugwire x = new Slugwire();
        x.source(3, -1);
        x.source(1, -1);
        x.story();
        x.report(0, 0, 0, 10);
        x.report(0, 0, 1, 11);
        x.report(0, 0, 2, 12);
        x.report(1, 0, 3, 13);
        return x;
    }

    /** Promise 9: a take keeps what is so as it is filed. */
    private static void file() {
        Slugwire x = house();
        x.story();
        x.report(0, 1, 0, 77);
        x.pass(4);
        Check.due("a lead", x.file(0, 3, 5, false, 9), 0);
        Check.due("a guarded feature with what is heard, and what is true", x.file(0, 4, 9, true, 0), 1);
        Check.due("a flash of the other story", x.file(1, 0, 1, false, 9999), 2);
        x.report(0, 0, 0, 20);
        x.report(1, 0, 0, 10);
        int[][] due = {{0, 3, 5, 50, 9, 0, 0, -1, 4}, {0, 4, 9, 120, 0, 1, 0, -1, 4}, {1, 0, 1, 8, 9999, 0, 0, -1, 4}};
        int[][] values = {{10, -1, 12, -1}, {10, -1, -1, 13}, {77, -1, -1, -1}};
        for (int t = 0; t < 3; t++) {
            for (int what = 0; what <= 8; what++) {
                Check.due("ofTake(" + t + ", " + what + ")", x.ofTake(t, what), due[t][what]);
            }
            for (int f = 0; f < 4; f++) {
                Check.due("says(" + t + ", " + f + ")", x.says(t, f), values[t][f]);
            }
        }
        Check.due("many(4)", x.many(4), 3);
        x.line(60, 0);
        Check.due("it does not run on a line that is told later", x.state(0, 0), 0);
        Check.due("a flash of now", x.file(0, 0, 1, false, 0), 3);
        Check.due("it runs there", x.state(0, 3), 1);
        Check.due("its value is the truth of now", x.says(3, 0), 20);
    }

    private static void fileWords() {
        Slugwire x = house();
        int[] sets = {1, 2, 4, 8, 3, 7, 15};
        int[] many = {1, 1, 1, 1, 2, 3, 4};
        for (int i = 0; i < sets.length; i++) {
            int lead = x.file(0, 3, sets[i], true, 0);
            int feature = x.file(0, 4, sets[i], true, 0);
            Check.due("words of a lead with " + sets[i], x.ofTake(lead, 3), 20 + 15 * many[i]);
            Check.due("words of a feature with " + sets[i], x.ofTake(feature, 3), 60 + 30 * many[i]);
        }
        Check.due("words of a flash", x.ofTake(x.file(0, 0, 8, true, 0), 3), 8);
    }

    /** Promise 9: -2 and -3, and that nothing is done then. */
    private static void fileLacks() {
        Slugwire x = house();
        x.story();
        x.line(60, 0);
        long before = x.digest();
        Check.due("a fact without a truth", x.file(0, 3, 8, false, 0), -2);
        Check.due("one of several", x.file(0, 4, 15, false, 0), -2);
        Check.due("nothing is heard", x.file(1, 3, 1, true, 0), -2);
        Check.due("a flash with two facts", x.file(0, 0, 3, false, 0), -3);
        Check.due("a guarded flash with all four", x.file(0, 0, 15, true, 0), -3);
        Check.due("a flash with two facts, one without a truth", x.file(0, 0, 9, false, 0), -2);
        Check.due("nothing was done", x.digest(), before);
        Check.due("the first take", x.file(0, 0, 4, false, 0), 0);
    }

    private static void fileRefused() {
        Slugwire x = house();
        Check.refusesIndex("file of story 1", x, () -> x.file(1, 3, 1, false, 0));
        Check.refusesIndex("file of story -1", x, () -> x.file(-1, 3, 1, false, 0));
        for (int kind : new int[] {-1, 1, 2, 5, Integer.MAX_VALUE}) {
            Check.refusesArgument("file of kind " + kind, x, () -> x.file(0, kind, 1, false, 0));
        }
        for (int facts : new int[] {-1, 0, 16, 17, Integer.MIN_VALUE}) {
            Check.refusesArgument("file of facts " + facts, x, () -> x.file(0, 3, facts, false, 0));
        }
        Check.refusesArgument("file with hold -1", x, () -> x.file(0, 3, 1, false, -1));
        Check.refusesArgument("file with hold 10000", x, () -> x.file(0, 3, 1, false, 10000));
        Check.refusesIndex("story 1 goes ahead of kind 1", x, () -> x.file(1, 1, 0, false, -1));
        Check.refusesArgument("hold -1 goes ahead of -2", x, () -> x.file(0, 3, 8, false, -1));
        Check.refusesArgument("hold 10000 goes ahead of -3", x, () -> x.file(0, 0, 3, false, 10000));
    }

    /** Promise 10. */
    private static void correct() {
        Slugwire x = house();
        x.line(60, 0);
        x.file(0, 4, 13, true, 500);
        Check.due("the truth is that already", x.correct(0, 0), -2);
        Check.due("there is no truth", x.correct(0, 3), -2);
        x.report(0, 0, 0, 30);
        x.report(0, 0, 2, 31);
        x.pass(7);
        Check.due("a correction", x.correct(0, 0), 1);
        int[] due = {0, 2, 1, 15, 0, 0, 0, 0, 7};
        for (int what = 0; what <= 8; what++) {
            Check.due("ofTake(1, " + what + ")", x.ofTake(1, what), due[what]);
        }
        Check.due("its value", x.says(1, 0), 30);
        Check.due("it has that fact alone", x.says(1, 2), -1);
        Check.due("it runs on the line", x.state(0, 1), 1);
        Check.due("the take itself is as it was", x.says(0, 0), 10);
        Check.due("another fact of the same take", x.correct(0, 2), 2);
        Check.due("its set", x.ofTake(2, 2), 4);
        Check.due("the same fact again, as the take still says 10", x.correct(0, 0), 3);
        Check.due("the correction is right", x.correct(1, 0), -2);
        x.report(0, 0, 0, 10);
        Check.due("now the correction is to be corrected", x.correct(1, 0), 4);
        Check.due("it corrects the correction", x.ofTake(4, 7), 1);
        Check.due("and the take is right", x.correct(0, 0), -2);
        Check.due("many(6)", x.many(6), 4);
    }

    private static void correctRefused() {
        Slugwire x = house();
        x.file(0, 3, 1, false, 0);
        x.file(0, 3, 1, false, 0);
        x.kill(1);
        x.report(0, 0, 0, 30);
        Check.refusesIndex("correct of take 3", x, () -> x.correct(3, 0));
        Check.refusesIndex("correct of take -1", x, () -> x.correct(-1, 0));
        Check.refusesIndex("take 3 goes ahead of fact 4", x, () -> x.correct(3, 4));
        Check.refusesArgument("a fact that it has not", x, () -> x.correct(0, 1));
        Check.refusesArgument("correct of fact 4", x, () -> x.correct(0, 4));
        Check.refusesArgument("correct of fact -1", x, () -> x.correct(0, -1));
        Check.refusesArgument("a kill has no fact", x, () -> x.correct(2, 0));
        Check.refusesState("a killed take", x, () -> x.correct(1, 0));
        Check.refusesArgument("the fact goes ahead of killed", x, () -> x.correct(1, 1));
        x.retract(0, 0, 0);
        Check.refusesState("killed goes ahead of -2", x, () -> x.correct(1, 0));
    }

    /** Promise 11: what was sent stays, and its kill runs; what was not sent runs no more. */
    private static void kill() {
        Slugwire x = house();
        x.line(60, 0);
        x.line(10, 9);
        x.file(0, 3, 1, false, 0);
        x.pass(1);
        Check.due("sent on line 0 alone", x.state(0, 0) * 10 + x.state(1, 0), 42);
        Check.due("the kill runs on line 0 alone", x.kill(0), 1);
        int[] due = {0, 1, 0, 5, 0, 0, 0, 0, 1};
        for (int what = 0; what <= 8; what++) {
            Check.due("ofTake(1, " + what + ")", x.ofTake(1, what), due[what]);
        }
        Check.due("take 0 is killed", x.ofTake(0, 6), 1);
        Check.due("it kills and corrects none itself", x.ofTake(0, 7), -1);
        Check.due("on line 1 it does not run any more", x.state(1, 0), 0);
        Check.due("and neither does the kill", x.state(1, 1), 0);
        Check.due("the words that it sent are told", x.ofLine(1, 5), 10);
        Check.due("no words are left there", x.ofLine(1, 4), 0);
        Check.due("on line 0 the desk has it", x.state(0, 0), 4);
        Check.due("and tells it", x.tells(0, 0, 0), 10);
        Check.due("the kill is sent", x.pass(1), 1);
        Check.due("the desk dropped it", x.state(0, 0), 5);
        Check.due("and tells nothing", x.tells(0, 0, 0), -1);
        Check.due("nothing was ever sent on line 1", x.ofLine(1, 5), 10);
        Check.due("many(5)", x.many(5), 1);
    }

    private static void killOnSomeLines() {
        Slugwire x = house();
        x.line(60, 0);
        x.line(1, 0);
        x.line(60, 9);
        x.file(0, 0, 1, false, 0);
        x.pass(1);
        x.line(60, 0);
        Check.due("sent on two of the lines that it runs on", x.kill(0), 2);
        Check.due("the desk has it not yet", x.state(2, 0), 3);
        Check.due("the kill does not run on a line told later", x.state(3, 1), 0);
        Check.due("nor does the take", x.state(3, 0), 0);
        x.pass(9);
        Check.due("now it has it", x.state(2, 0), 4);
        x.pass(1);
        Check.due("now it dropped it", x.state(2, 0), 5);
        Slugwire y = house();
        y.file(0, 0, 1, false, 0);
        y.report(0, 0, 0, 30);
        y.correct(0, 0);
        Check.due("no line", y.kill(0), 0);
        Check.due("a correction can be killed", y.kill(1), 0);
        Check.due("it is killed", y.ofTake(1, 6), 1);
    }

    private static void killRefused() {
        Slugwire x = house();
        x.file(0, 3, 1, false, 0);
        Check.refusesIndex("kill of take 1", x, () -> x.kill(1));
        Check.refusesIndex("kill of take -1", x, () -> x.kill(-1));
        x.kill(0);
        Check.refusesState("kill of a killed take", x, () -> x.kill(0));
        Check.refusesState("kill of a kill", x, () -> x.kill(1));
        Check.refusesIndex("kill of take 2", x, () -> x.kill(2));
    }

    /** Promises 9, 10, 11: there are 60 takes. */
    private static void noRoom() {
        Slugwire x = house();
        x.line(60, 0);
        x.line(60, 0);
        for (int n = 0; n < 59; n++) {
            x.file(0, 0, 1, false, 0);
        }
        x.report(0, 0, 0, 30);
        Check.due("the 60th take", x.correct(0, 0), 59);
        Check.refusesState("file of a 61st", x, () -> x.file(0, 0, 1, false, 0));
        Check.refusesState("it goes ahead of -2", x, () -> x.file(0, 3, 8, false, 0));
        Check.refusesState("it goes ahead of -3", x, () -> x.file(0, 0, 3, false, 0));
        Check.refusesArgument("kind 1 goes ahead of it", x, () -> x.file(0, 1, 1, false, 0));
        Check.refusesIndex("story 1 goes ahead of it", x, () -> x.file(1, 0, 1, false, 0));
        Check.refusesState("correct for a 61st", x, () -> x.correct(1, 0));
        Check.refusesState("it goes ahead of -2", x, () -> x.correct(59, 0));
        Check.refusesArgument("a fact that it has not goes ahead of it", x, () -> x.correct(1, 1));
        Check.refusesIndex("take 60 goes ahead of it", x, () -> x.correct(60, 0));
        Check.refusesState("kill for a 61st", x, () -> x.kill(1));
        Check.refusesIndex("take 60 goes ahead of it", x, () -> x.kill(60));
        Check.due("a new flash would go ahead of the correction", x.wouldArrive(0, 0, 8), 8);
        Check.due("a new lead would go behind it", x.wouldArrive(0, 3, 8), 9);
        Check.due("all are sent on both lines", x.pass(99), 120);
    }

    /** Promise 12: each line for itself; words go one behind the other, over takes and minutes. */
    private static void pass() {
        Slugwire x = house();
        x.line(9, 0);
        x.line(60, 3);
        x.file(0, 0, 1, false, 0);
        x.file(0, 0, 2, false, 0);
        Check.due("one flash on line 0, two on line 1", x.pass(1), 3);
        Check.due("many(0)", x.many(0), 1);
        Check.due("a word of the second is gone on line 0", x.state(0, 1), 2);
        Check.due("seven are left", x.ofLine(0, 4), 7);
        Check.due("nine were sent", x.ofLine(0, 5), 9);
        Check.due("the rest", x.pass(1), 1);
        Check.due("line 0 sent no more than there is", x.ofLine(0, 5), 16);
        Check.due("nothing to send", x.pass(99), 0);
        Check.due("many(0)", x.many(0), 101);
    }

    /** Promise 12: the smallest kind goes first, and what it passes goes on later. */
    private static void passByUrgency() {
        Slugwire x = house();
        x.line(10, 0);
        x.file(0, 4, 1, false, 0);
        x.pass(1);
        x.file(0, 3, 1, false, 0);
        x.report(0, 0, 0, 30);
        x.correct(0, 0);
        x.file(0, 0, 2, false, 0);
        x.file(0, 0, 4, false, 0);
        x.pass(1);
        Check.due("the flash with the smaller number went first", x.state(0, 3), 4);
        Check.due("then the other one began", x.state(0, 4), 2);
        Check.due("the feature waits", x.ofLine(0, 4), 80 + 35 + 15 + 6);
        x.pass(1);
        Check.due("then the correction began", x.state(0, 4) * 10 + x.state(0, 2), 42);
        x.pass(2);
        Check.due("then the lead", x.state(0, 2) * 10 + x.state(0, 1), 42);
        x.pass(3);
        Check.due("then the feature goes on", x.state(0, 1) * 10 + x.state(0, 0), 42);
        Check.due("with its words of the first minute gone", x.ofLine(0, 4), 80 - 4);
        Check.due("it is sent last", x.pass(8), 1);
        Slugwire y = house();
        y.line(5, 0);
        y.file(0, 0, 1, false, 0);
        y.pass(2);
        y.report(0, 0, 0, 30);
        y.correct(0, 0);
        y.kill(0);
        y.pass(1);
        Check.due("the kill goes ahead of the correction", y.state(0, 2) * 10 + y.state(0, 1), 41);
    }

    /** Promise 12: a take is not sent ahead of its hold, and others go meanwhile. */
    private static void passHeld() {
        Slugwire x = house();
        x.line(8, 0);
        x.file(0, 0, 1, false, 3);
        x.file(0, 3, 1, false, 0);
        x.pass(2);
        Check.due("held at 2", x.state(0, 0), 1);
        Check.due("the lead goes meanwhile", x.state(0, 1), 2);
        Check.due("sent at 3", x.pass(1), 1);
        Check.due("it was the flash", x.state(0, 0), 4);
        Check.due("the lead goes on", x.pass(3), 1);
    }

    private static void passRefused() {
        Slugwire x = new Slugwire();
        for (int minutes : new int[] {0, -1, 100, Integer.MIN_VALUE, Integer.MAX_VALUE}) {
            Check.refusesArgument("pass(" + minutes + ")", x, () -> x.pass(minutes));
        }
        for (int n = 0; n < 100; n++) {
            x.pass(99);
        }
        Check.due("many(0)", x.many(0), 9900);
        x.pass(50);
        Check.refusesState("NOW would be 10000", x, () -> x.pass(50));
        Check.refusesArgument("100 minutes go ahead of that", x, () -> x.pass(100));
        Check.due("up to 9999", x.pass(49), 0);
        Check.refusesState("NOW would be 10000", x, () -> x.pass(1));
        Check.refusesArgument("0 minutes go ahead of that", x, () -> x.pass(0));
        Check.due("many(0)", x.many(0), 9999);
    }
}
