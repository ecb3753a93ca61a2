/** The edges that promises 9 to 12 name: what is done. */
final class EdgesOfDone {
    private static final String INDEX = Edge.INDEX;
    private static final String ARGUMENT = Edge.ARGUMENT;
    private static final String STATE = Edge.STATE;

    private EdgesOfDone() {
    }

    static void test() {
        file();
        fileLacks();
        fileRefused();
        correct();
        correctLacks();
        correctRefused();
        kill();
        killRefused();
        pass();
        passRefused();
    }

    /** A story with four true facts, and a line. */
    private static final String HOUSE = Houses.STORY + "; report(0, 0, 3, 13); line(60, 0)";

    private static void file() {
        Edge numbers = Edge.of(9, "Returns its number").given(HOUSE);
        for (int n = 0; n < 60; n++) {
            numbers.due("file(0, " + (n % 3 == 0 ? 0 : n % 3 + 2) + ", 8, false, " + n + ")", n);
        }
        numbers.due("ofTake(59, 4)", 59).due("ofTake(58, 1)", 3).due("ofTake(59, 1)", 4);
        Edge sets = Edge.of(9, "the set of FACTS (the sum of 2^k)").given(HOUSE);
        for (int set = 1; set <= 15; set++) {
            sets.given("file(0, 3, " + set + ", false, 0)").due("ofTake(" + (set - 1) + ", 2)", set);
            for (int fact = 0; fact < 4; fact++) {
                boolean isInSet = set / (1 << fact) % 2 == 1;
                sets.due("says(" + (set - 1) + ", " + fact + ")", isInSet ? 10 + fact : -1);
            }
        }
    }

    private static void fileLacks() {
        Edge.of(9, "-2, if a FACT has not what it needs").given("source(1, NONE); story(); line(60, 0)")
            .leaves("file(0, 3, 1, false, 0)", -2).leaves("file(0, 3, 1, true, 0)", -2)
            .leaves("file(0, 4, 15, true, 9999)", -2).given("report(0, 0, 0, 0)")
            .leaves("file(0, 3, 1, false, 0)", -2).leaves("file(0, 3, 9, true, 0)", -2).due("file(0, 3, 1, true, 0)", 0)
            .given("source(3, NONE); report(1, 0, 3, 0)").leaves("file(0, 3, 9, false, 0)", -2)
            .due("file(0, 3, 9, true, 0)", 1).due("file(0, 3, 8, false, 0)", 2).given("retract(1, 0, 3)")
            .leaves("file(0, 3, 8, false, 0)", -2).leaves("file(0, 3, 8, true, 0)", -2);
        Edge.of(9, "-2, if a FACT has not what it needs").given(Houses.BUSY)
            .leaves("file(1, 3, 12, false, 0)", -2).leaves("file(1, 4, 7, true, 0)", -2)
            .leaves("file(0, 0, 4, false, 0)", -2).due("file(0, 0, 4, true, 0)", 5);
        Edge.of(9, "-3, if a FLASH has not just one FACT (-2 ahead of this; nothing is done)").given(HOUSE)
            .leaves("file(0, 0, 3, false, 0)", -3).leaves("file(0, 0, 15, false, 0)", -3)
            .leaves("file(0, 0, 12, true, 0)", -3).leaves("file(0, 0, 9, true, 9999)", -3)
            .given("retract(0, 0, 3)").leaves("file(0, 0, 9, false, 0)", -2).leaves("file(0, 0, 9, true, 0)", -3)
            .leaves("file(0, 0, 7, false, 0)", -3).given("retract(1, 0, 3)").leaves("file(0, 0, 9, true, 0)", -2)
            .due("file(0, 0, 1, false, 0)", 0).due("file(0, 3, 7, false, 0)", 1).due("file(0, 4, 7, true, 0)", 2);
        Edge.of(9, "-3, if a FLASH has not just one FACT (-2 ahead of this; nothing is done)").given(Houses.BUSY)
            .leaves("file(0, 0, 3, false, 0)", -3).leaves("file(0, 0, 7, true, 0)", -3);
    }

    private static void fileRefused() {
        Edge.of(9, "if there is no such STORY").given("source(3, NONE)")
            .refuses(INDEX, "file(0, 0, 1, false, 0); file(-1, 0, 1, false, 0)");
        Edge.of(9, "if there is no such STORY").given(Houses.BUSY)
            .refuses(INDEX, "file(2, 3, 1, false, 0); file(6, 3, 1, false, 0); file(-1, 3, 8, false, 0)")
            .refuses(INDEX, "file(MIN, 3, 1, true, 0); file(MAX, 3, 1, true, 0)")
            .due("file(1, 3, 8, false, 0)", 5).due("file(0, 3, 1, false, 0)", 6);
        Edge.of(9, "if kind is not 0, 3 or 4").given(Houses.BUSY)
            .refuses(ARGUMENT, "file(0, -1, 1, false, 0); file(0, 1, 1, false, 0); file(0, 2, 1, false, 0)")
            .refuses(ARGUMENT, "file(0, 5, 1, false, 0); file(0, MIN, 1, false, 0); file(0, MAX, 1, false, 0)")
            .due("file(0, 0, 1, false, 0)", 5).due("file(0, 3, 1, false, 0)", 6).due("file(0, 4, 1, false, 0)", 7);
        Edge.of(9, "facts not 1 to 15").given(HOUSE)
            .refuses(ARGUMENT, "file(0, 3, 0, false, 0); file(0, 3, 16, false, 0); file(0, 3, 17, false, 0)")
            .refuses(ARGUMENT, "file(0, 3, -1, false, 0); file(0, 4, 0, true, 0); file(0, 0, 16, false, 0)")
            .refuses(ARGUMENT, "file(0, 3, MIN, false, 0); file(0, 3, MAX, false, 0)")
            .due("file(0, 3, 1, false, 0)", 0).due("file(0, 3, 15, false, 0)", 1);
        Edge.of(9, "or hold not 0 to 9999").given(Houses.BUSY)
            .refuses(ARGUMENT, "file(0, 3, 1, false, -1); file(0, 3, 1, false, 10000); file(0, 3, 1, false, MIN)")
            .refuses(ARGUMENT, "file(0, 3, 1, false, MAX); file(0, 0, 1, true, -1)")
            .due("file(0, 3, 1, false, 0)", 5).due("file(0, 3, 1, false, 9999)", 6).due("ofTake(5, 4)", 0)
            .due("ofTake(6, 4)", 9999);
        Edge.of(9, "if there are 60").given(HOUSE).given(59, "file(0, 0, 1, false, 0)")
            .due("file(0, 3, 15, false, 0)", 59)
            .refuses(STATE, "file(0, 0, 1, false, 0); file(0, 3, 15, false, 0); file(0, 4, 1, true, 9999)");
        Edge.of(9, "if there are 60").given(Houses.FULL)
            .refuses(STATE, "file(0, 0, 1, false, 0); file(5, 4, 15, true, 0)");
    }

    private static void correct() {
        Edge.of(10, "Returns the number of the CORRECTION").given(HOUSE)
            .given("file(0, 3, 15, false, 0); report(0, 0, 0, 0); report(0, 0, 3, 99)")
            .due("correct(0, 0)", 1).due("correct(0, 3)", 2).due("says(1, 0)", 0).due("says(2, 3)", 99)
            .given("report(0, 0, 0, 1)").due("correct(1, 0)", 3).due("ofTake(3, 7)", 1).due("correct(0, 0)", 4)
            .due("ofTake(4, 7)", 0).due("many(6)", 4);
        Edge.of(10, "if it has not that FACT (or fact is not 0 to 3)").given(HOUSE)
            .given("file(0, 3, 9, false, 0); report(0, 0, 0, 0); report(0, 0, 1, 0); report(0, 0, 2, 0)")
            .given("report(0, 0, 3, 0)")
            .refuses(ARGUMENT, "correct(0, 1); correct(0, 2); correct(0, -1); correct(0, 4); correct(0, MIN)")
            .refuses(ARGUMENT, "correct(0, MAX); correct(0, 32)").due("correct(0, 0)", 1).due("correct(0, 3)", 2)
            .refuses(ARGUMENT, "correct(1, 3); correct(2, 0)").given("kill(0)").refuses(ARGUMENT, "correct(3, 0)");
    }

    private static void correctLacks() {
        Edge.of(10, "-2, if the FACT has no TRUTH").given(HOUSE)
            .given("file(0, 3, 1, false, 0); file(0, 3, 8, true, 0); retract(0, 0, 0); retract(0, 0, 3)")
            .leaves("correct(0, 0)", -2).leaves("correct(1, 3)", -2).given("report(1, 0, 0, 99)")
            .leaves("correct(0, 0)", -2).given("report(0, 0, 0, 99)").due("correct(0, 0)", 2);
        Edge.of(10, "or that is the VALUE in the TAKE (nothing is done)").given(HOUSE)
            .given("file(0, 3, 9, false, 0)").leaves("correct(0, 0)", -2).leaves("correct(0, 3)", -2)
            .given("report(0, 0, 0, 11)").leaves("correct(0, 3)", -2).due("correct(0, 0)", 1)
            .leaves("correct(1, 0)", -2)
            .given("report(0, 0, 0, 10)").leaves("correct(0, 0)", -2).due("correct(1, 0)", 2)
            .given("report(0, 0, 0, 9)").due("correct(0, 0)", 3);
        Edge.of(10, "or that is the VALUE in the TAKE (nothing is done)").given(Houses.BUSY)
            .leaves("correct(0, 1)", -2).leaves("correct(2, 0)", -2).leaves("correct(4, 3)", -2);
    }

    private static void correctRefused() {
        Edge.of(10, "if there is no such TAKE").given(Houses.STORY).refuses(INDEX, "correct(0, 0); correct(-1, 0)");
        Edge.of(10, "if there is no such TAKE").given(Houses.BUSY)
            .refuses(INDEX, "correct(5, 0); correct(59, 0); correct(60, 0); correct(-1, 0); correct(MIN, 0)")
            .refuses(INDEX, "correct(MAX, 0)").given("report(0, 1, 3, 1)").due("correct(4, 3)", 5)
            .due("correct(0, 0)", 6);
        Edge.of(10, "if it is KILLED").given(HOUSE)
            .given("file(0, 3, 1, false, 0); file(0, 3, 1, false, 0); report(0, 0, 0, 20)").due("correct(0, 0)", 2)
            .given("kill(0)").refuses(STATE, "correct(0, 0)").due("correct(1, 0)", 4).given("report(0, 0, 0, 10)")
            .due("correct(2, 0)", 5).given("kill(2)").refuses(STATE, "correct(2, 0); correct(0, 0)");
        Edge.of(10, "or there are 60").given(HOUSE).given(58, "file(0, 0, 1, false, 0)").given("report(0, 0, 0, 20)")
            .due("correct(0, 0)", 58).due("correct(57, 0)", 59)
            .refuses(STATE, "correct(0, 0); correct(57, 0); correct(59, 0)").given("report(0, 0, 0, 30)")
            .refuses(STATE, "correct(59, 0)");
    }

    private static void kill() {
        String sentence = "Returns on how many LINES the KILL runs";
        Edge.of(11, sentence).given(Houses.STORY).given("file(0, 0, 1, false, 0); line(60, 0); pass(1)")
            .due("kill(0)", 0)
            .due("state(0, 1)", 0);
        Edge.of(11, sentence).given(HOUSE).given("file(0, 0, 1, false, 0)").due("kill(0)", 0).due("pass(9)", 0)
            .due("state(0, 0)", 0).due("state(0, 1)", 0);
        Edge.of(11, sentence).given(HOUSE).given("line(8, 9); line(7, 0); line(9, 0); file(0, 0, 1, false, 0); pass(1)")
            .due("kill(0)", 3).due("state(2, 1)", 0);
        Edge.of(11, sentence).given(HOUSE).given("line(8, 9); line(7, 0); line(9, 0); file(0, 0, 1, false, 0); pass(2)")
            .due("kill(0)", 4).due("pass(1)", 4);
    }

    private static void killRefused() {
        Edge.of(11, "if there is no such TAKE").given(HOUSE).refuses(INDEX, "kill(0); kill(-1)")
            .given("file(0, 0, 1, false, 0)").refuses(INDEX, "kill(1)").due("kill(0)", 0);
        Edge.of(11, "if there is no such TAKE").given(Houses.BUSY)
            .refuses(INDEX, "kill(5); kill(59); kill(60); kill(-1); kill(MIN); kill(MAX)").due("kill(4)", 0)
            .due("kill(0)", 1);
        Edge.of(11, "if it is a KILL").given(HOUSE).given("file(0, 0, 1, false, 0); pass(1); kill(0)")
            .refuses(STATE, "kill(1)").given("pass(1)").refuses(STATE, "kill(1)");
        Edge.of(11, "it is KILLED").given(HOUSE)
            .given("file(0, 0, 1, false, 0); file(0, 0, 1, false, 0); pass(1); kill(0)")
            .refuses(STATE, "kill(0)").given("pass(1)").refuses(STATE, "kill(0)").due("kill(1)", 1)
            .refuses(STATE, "kill(1); kill(0)");
        Edge.of(11, "or there are 60").given(HOUSE).given(59, "file(0, 0, 1, false, 0)").given("pass(1)")
            .due("kill(0)", 1).due("ofTake(59, 1)", 1).refuses(STATE, "kill(1); kill(58); kill(0); kill(59)");
    }

    private static void pass() {
        String sentence = "Returns how many times a TAKE was SENT in them (on each LINE for itself)";
        Edge.of(12, sentence).due("pass(1)", 0).due("pass(99)", 0);
        Edge.of(12, sentence).given(HOUSE).due("pass(9)", 0).given("file(0, 0, 1, false, 0)").due("pass(1)", 1)
            .due("pass(99)", 0).given("kill(0)").due("pass(2)", 1).due("pass(2)", 0);
        Edge.of(12, sentence).given(HOUSE).given(3, "line(60, 9)").given(60, "file(0, 0, 1, false, 0)")
            .due("pass(1)", 4 * 7).due("pass(7)", 4 * 53).due("pass(99)", 0);
        Edge.of(12, sentence).given(HOUSE).given("file(0, 0, 1, false, 9); file(0, 0, 1, false, 10)")
            .due("pass(8)", 0).due("pass(1)", 1).due("pass(1)", 1);
    }

    private static void passRefused() {
        Edge.of(12, "if minutes is not 1 to 99").given(Houses.BUSY)
            .refuses(ARGUMENT, "pass(0); pass(100); pass(-1); pass(MIN); pass(MAX)")
            .given("pass(1)").due("many(0)", 4).given("pass(99)").due("many(0)", 103);
        String sentence = "if NOW would be above 9999";
        Edge.of(12, sentence).given(HOUSE).given(101, "pass(98)").due("many(0)", 9898).given("file(0, 3, 7, false, 0)")
            .given("pass(1)").due("many(0)", 9899).given("pass(1)").due("many(0)", 9900)
            .due("pass(99)", 0).due("many(0)", 9999).refuses(STATE, "pass(1); pass(2); pass(99)");
        Edge.of(12, sentence).given(HOUSE).given(101, "pass(98)").given("pass(3); file(0, 3, 7, false, 0)")
            .due("many(0)", 9901).refuses(STATE, "pass(99)").due("pass(98)", 1).due("many(0)", 9999)
            .refuses(STATE, "pass(1)");
        Edge.of(12, sentence).given(101, "pass(98)").given("pass(99); pass(1)").due("many(0)", 9998)
            .refuses(STATE, "pass(2); pass(99)").due("pass(1)", 0).refuses(STATE, "pass(1)");
    }
}
