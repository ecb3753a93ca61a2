import java.math.BigInteger;
import java.util.ArrayList;
import java.util.Collections;
import java.util.List;

/** The edges that promises 23 to 27 name: what would be. */
final class EdgesOfWouldBe {
    private static final String INDEX = Edge.INDEX;
    private static final String ARGUMENT = Edge.ARGUMENT;

    /** A story with four true facts. */
    private static final String HOUSE = Houses.STORY + "; report(0, 0, 3, 13)";

    private EdgesOfWouldBe() {
    }

    static void test() {
        arrives();
        arrivesInTime();
        arrivesRefused();
        wouldArrive();
        wouldArriveInTime();
        wouldArriveRefused();
        needs();
        needsMost();
        needsRefused();
        lead();
        leadRefused();
        digest();
    }

    private static void arrives() {
        Edge.of(23, "Returns in how many minutes the desk will HAVE it, if nothing else is done").given(HOUSE)
            .given("line(8, 0); line(7, 9); file(0, 0, 1, false, 0)").due("arrives(0, 0)", 1)
            .due("arrives(1, 0)", 2 + 9)
            .given("file(0, 0, 1, false, 0)").due("arrives(0, 1)", 2).due("arrives(1, 1)", 3 + 9).given("pass(1)")
            .due("arrives(0, 1)", 1).due("arrives(1, 0)", 1 + 9).given("pass(1)").due("arrives(0, 1)", 0)
            .due("arrives(1, 0)", 9).given("pass(8)").due("arrives(1, 0)", 1).due("arrives(1, 1)", 2).given("pass(1)")
            .due("arrives(1, 0)", 0).due("arrives(1, 1)", 1);
        Edge.of(23, "(0, if it HAS it, DROPPED or not)").given(HOUSE)
            .given("line(60, 1); file(0, 0, 1, false, 0); pass(1)").due("arrives(0, 0)", 1).given("pass(1)")
            .due("arrives(0, 0)", 0).given("kill(0)").due("arrives(0, 0)", 0).due("arrives(0, 1)", 2).given("pass(1)")
            .due("arrives(0, 0)", 0).due("arrives(0, 1)", 1).given("pass(1)").due("state(0, 0)", 5)
            .due("arrives(0, 0)", 0).due("arrives(0, 1)", 0).given("pass(99)").due("arrives(0, 0)", 0);
        Edge.of(23, "or if it does not run there").given(HOUSE)
            .given("line(60, 0); line(1, 0); file(0, 0, 1, false, 0); line(60, 0)").due("arrives(2, 0)", -1)
            .due("arrives(1, 0)", 8).given("pass(1); kill(0)").due("arrives(0, 0)", 0).due("arrives(1, 0)", -1)
            .due("arrives(0, 1)", 1).due("arrives(1, 1)", -1).due("arrives(2, 1)", -1).given("pass(9)")
            .due("arrives(1, 0)", -1).due("arrives(2, 0)", -1);
    }

    private static void arrivesInTime() {
        String sentence = "NONE, if not in 99";
        Edge.of(23, sentence).given(HOUSE).given("line(1, 0); line(1, 9); file(0, 4, 1, false, 0)")
            .due("arrives(0, 0)", 90).due("arrives(1, 0)", 99).given("down(0, 9); down(1, 1)").due("arrives(0, 0)", 99)
            .due("arrives(1, 0)", -1).given("down(0, 10)").due("arrives(0, 0)", -1).given("pass(1)")
            .due("arrives(0, 0)", 99).due("arrives(1, 0)", 99);
        Edge.of(23, sentence).given(HOUSE).given("line(60, 0); line(60, 9); file(0, 0, 1, false, 99)")
            .given("file(0, 0, 1, false, 100); file(0, 0, 1, false, 90); file(0, 0, 1, false, 91)")
            .due("arrives(0, 0)", 99).due("arrives(0, 1)", -1).due("arrives(1, 2)", 99).due("arrives(1, 3)", -1)
            .given("pass(1)").due("arrives(0, 1)", 99).due("arrives(1, 3)", 99).due("arrives(0, 0)", 98);
        Edge.of(23, sentence).given(HOUSE).given("line(8, 0); file(0, 0, 1, false, 0); down(0, 98)")
            .due("arrives(0, 0)", 99).given("down(0, 99)").due("arrives(0, 0)", -1);
        Edge words = Edge.of(23, sentence).given(HOUSE).given("line(2, 0)").given(27, "file(0, 0, 1, false, 0)");
        words.due("arrives(0, 23)", 96).due("arrives(0, 24)", -1).given("pass(1)").due("arrives(0, 24)", 99)
            .due("arrives(0, 25)", -1).given("pass(4)").due("arrives(0, 25)", 99).due("arrives(0, 26)", -1);
    }

    private static void arrivesRefused() {
        Edge.of(23, "if there is no such LINE").given(HOUSE).given("file(0, 0, 1, false, 0)")
            .refuses(INDEX, "arrives(0, 0); arrives(-1, 0)").given("line(1, 0)").refuses(INDEX, "arrives(1, 0)")
            .due("arrives(0, 0)", -1);
        Edge.of(23, "if there is no such LINE").given(Houses.BUSY)
            .refuses(INDEX, "arrives(2, 0); arrives(4, 0); arrives(-1, 0); arrives(MIN, 0); arrives(MAX, 0)")
            .due("arrives(1, 0)", 0).due("arrives(0, 2)", 5);
        Edge.of(23, "if there is no such LINE").given(Houses.FULL).refuses(INDEX, "arrives(4, 0)")
            .due("arrives(3, 8)", 2 + 2);
        Edge.of(23, "or TAKE").given("line(1, 0)").refuses(INDEX, "arrives(0, 0); arrives(0, -1)").given(HOUSE)
            .given("file(0, 0, 1, false, 0)").refuses(INDEX, "arrives(0, 1)").due("arrives(0, 0)", 8);
        Edge.of(23, "or TAKE").given(Houses.BUSY)
            .refuses(INDEX, "arrives(0, 5); arrives(0, 60); arrives(1, -1); arrives(0, MIN); arrives(0, MAX)")
            .due("arrives(1, 4)", 18).due("arrives(0, 1)", 2);
        Edge.of(23, "or TAKE").given(Houses.FULL).refuses(INDEX, "arrives(0, 60)").due("arrives(0, 59)", 7);
    }

    private static void wouldArrive() {
        String sentence = "Returns in how many minutes the desk would HAVE a new TAKE of that KIND with so many WORDS,"
            + " that is not held, if it was filed now";
        Edge.of(24, sentence).given("line(10, 0); line(10, 9)").due("wouldArrive(0, 0, 1)", 1)
            .due("wouldArrive(0, 0, 10)", 1).due("wouldArrive(0, 0, 11)", 2).due("wouldArrive(0, 4, 200)", 20)
            .due("wouldArrive(1, 0, 1)", 1 + 9).due("wouldArrive(1, 4, 200)", 20 + 9);
        Edge.of(24, sentence).given(HOUSE).given("line(1, 0)").given("file(0, 0, 1, false, 0); pass(8); kill(0)")
            .given("file(0, 0, 1, false, 0); file(0, 3, 1, false, 0); file(0, 4, 1, false, 0); report(0, 0, 0, 20)")
            .given("correct(2, 0); pass(1)")
            .due("wouldArrive(0, 0, 1)", 7 + 1).due("wouldArrive(0, 1, 1)", 7 + 5 + 1)
            .due("wouldArrive(0, 2, 1)", 7 + 5 + 15 + 1).due("wouldArrive(0, 3, 1)", 7 + 5 + 15 + 35 + 1)
            .due("wouldArrive(0, 3, 37)", 99).due("wouldArrive(0, 3, 38)", -1).due("wouldArrive(0, 4, 1)", -1);
        Edge.of(24, sentence).given(HOUSE).given("line(10, 0); file(0, 3, 1, false, 3)").due("wouldArrive(0, 4, 20)", 2)
            .due("wouldArrive(0, 4, 21)", 3 + 3).due("wouldArrive(0, 3, 20)", 2).due("wouldArrive(0, 3, 21)", 3 + 3)
            .due("wouldArrive(0, 2, 21)", 3).given("down(0, 1)").due("wouldArrive(0, 2, 20)", 3)
            .due("wouldArrive(0, 4, 10)", 2).due("wouldArrive(0, 4, 11)", 6);
    }

    private static void wouldArriveInTime() {
        String sentence = "NONE, if not in 99";
        Edge.of(24, sentence).given("line(1, 0); line(1, 9); line(2, 0); line(60, 9)").due("wouldArrive(0, 0, 99)", 99)
            .due("wouldArrive(0, 0, 100)", -1).due("wouldArrive(1, 0, 90)", 99).due("wouldArrive(1, 0, 91)", -1)
            .due("wouldArrive(2, 4, 198)", 99).due("wouldArrive(2, 4, 199)", -1).due("wouldArrive(0, 4, 200)", -1)
            .given("down(0, 98); down(3, 89)").due("wouldArrive(0, 0, 1)", 99).due("wouldArrive(0, 0, 2)", -1)
            .due("wouldArrive(3, 0, 60)", 99).due("wouldArrive(3, 0, 61)", -1).given("down(0, 99); down(3, 90)")
            .due("wouldArrive(0, 0, 1)", -1).due("wouldArrive(3, 0, 1)", -1).given("pass(1)")
            .due("wouldArrive(0, 0, 1)", 99).due("wouldArrive(3, 0, 1)", 99);
        Edge.of(24, sentence).given(HOUSE).given("line(1, 0); file(0, 4, 1, false, 0)").due("wouldArrive(0, 4, 9)", 99)
            .due("wouldArrive(0, 4, 10)", -1).due("wouldArrive(0, 3, 99)", 99).due("wouldArrive(0, 3, 100)", -1);
    }

    private static void wouldArriveRefused() {
        Edge.of(24, "if there is no such LINE").refuses(INDEX, "wouldArrive(0, 0, 1); wouldArrive(-1, 0, 1)")
            .given("line(1, 0)").refuses(INDEX, "wouldArrive(1, 0, 1)").due("wouldArrive(0, 0, 1)", 1);
        Edge.of(24, "if there is no such LINE").given(Houses.BUSY)
            .refuses(INDEX, "wouldArrive(2, 0, 1); wouldArrive(4, 0, 1); wouldArrive(-1, 0, 1); wouldArrive(MIN, 0, 1)")
            .refuses(INDEX, "wouldArrive(MAX, 0, 1)").due("wouldArrive(1, 0, 1)", 6).due("wouldArrive(0, 0, 1)", 4);
        Edge.of(24, "if there is no such LINE").given(Houses.FULL).refuses(INDEX, "wouldArrive(4, 0, 1)")
            .due("wouldArrive(3, 0, 1)", 60 + 2);
        Edge.of(24, "if kind is not 0 to 4").given(Houses.BUSY)
            .refuses(ARGUMENT, "wouldArrive(0, -1, 1); wouldArrive(0, 5, 1); wouldArrive(0, MIN, 1)")
            .refuses(ARGUMENT, "wouldArrive(0, MAX, 1)").due("wouldArrive(0, 0, 1)", 4)
            .due("wouldArrive(0, 4, 1)", 9 + 3);
        Edge.of(24, "or words not 1 to 200").given(Houses.BUSY)
            .refuses(ARGUMENT, "wouldArrive(0, 0, 0); wouldArrive(0, 0, 201); wouldArrive(0, 4, -1)")
            .refuses(ARGUMENT, "wouldArrive(0, 0, MIN); wouldArrive(0, 0, MAX)").due("wouldArrive(0, 0, 1)", 4)
            .due("wouldArrive(0, 0, 200)", 29 + 3);
    }

    private static void needs() {
        Edge.of(25, "so that it is the TRUTH (0, if it is)").given("source(3, NONE); source(2, NONE); story()")
            .due("needs(0, 0, 0, 3)", 1).due("needs(0, 0, 99, 2)", 2).due("needs(0, 0, 50, 1)", 3)
            .given("report(1, 0, 0, 50)").due("needs(0, 0, 50, 3)", 1).due("needs(0, 0, 50, 2)", 1)
            .due("needs(0, 0, 50, 1)", 2).due("needs(0, 0, 51, 3)", 1).given("report(0, 0, 0, 50)")
            .dueEach("needs(0, 0, 50, 1); needs(0, 0, 50, 2); needs(0, 0, 50, 3)", 0).due("needs(0, 0, 49, 3)", 2)
            .due("needs(0, 0, 51, 3)", 2).given("retract(1, 0, 0)").due("needs(0, 0, 50, 1)", 0)
            .due("needs(0, 0, 49, 3)", 1).due("needs(0, 0, 51, 3)", 2).due("needs(0, 0, 0, 1)", 3)
            .due("needs(0, 0, 99, 1)", 4).due("needs(0, 0, 49, 2)", 2).due("needs(0, 0, 51, 2)", 2);
        Edge.of(25, "so that it is the TRUTH (0, if it is)")
            .given("source(2, NONE); source(1, NONE); source(3, NONE); story(); report(0, 0, 0, 50); report(1, 0, 0, 50)")
            .due("needs(0, 0, 50, 1)", 1).due("needs(0, 0, 51, 3)", 1).due("needs(0, 0, 51, 2)", 2)
            .given("report(2, 0, 0, 60)").due("needs(0, 0, 50, 1)", 1).due("needs(0, 0, 61, 3)", 2);
        Edge.of(25, "so that it is the TRUTH (0, if it is)")
            .given("source(3, NONE); source(1, NONE); source(1, NONE); source(1, 1); story(); report(0, 0, 0, 50)")
            .given("report(1, 0, 0, 50); report(2, 0, 0, 20); report(3, 0, 0, 99)").due("needs(0, 0, 49, 2)", 2)
            .due("needs(0, 0, 51, 2)", 3).due("needs(0, 0, 20, 3)", 1).due("needs(0, 0, 99, 3)", 2);
    }

    private static void needsMost() {
        Edge ten = Edge.of(25, "NONE, if not even 10").given("story()");
        for (int n = 0; n < 10; n++) {
            ten.given("source(3, NONE); report(" + n + ", 0, 0, 50)");
        }
        ten.due("needs(0, 0, 49, 3)", 10).due("needs(0, 0, 51, 3)", -1).due("needs(0, 0, 49, 2)", -1)
            .due("needs(0, 0, 0, 1)", -1).due("needs(0, 0, 50, 1)", 0).given("retract(0, 0, 0)")
            .due("needs(0, 0, 49, 3)", 9).due("needs(0, 0, 51, 3)", 10).due("needs(0, 0, 49, 2)", -1);
        Edge.of(25, "NONE, if not even 10").given("source(3, NONE); source(3, NONE); source(3, NONE); source(1, NONE)")
            .given("story(); report(0, 0, 0, 50); report(1, 0, 0, 50); report(2, 0, 0, 50)")
            .due("needs(0, 0, 49, 1)", 9).due("needs(0, 0, 51, 1)", 10).given("report(3, 0, 0, 50)")
            .due("needs(0, 0, 49, 1)", 10).due("needs(0, 0, 51, 1)", -1);
        Edge.of(25, "(also more than there is room for)").given("source(3, NONE)").given(9, "source(1, NONE)")
            .given("story(); report(0, 0, 0, 50)").due("needs(0, 0, 49, 3)", 1).due("needs(0, 0, 51, 3)", 2)
            .due("needs(0, 0, 51, 1)", 4).due("needs(0, 1, 51, 1)", 3).due("many(1)", 10);
    }

    private static void needsRefused() {
        Edge.of(25, "if there is no such STORY").refuses(INDEX, "needs(0, 0, 0, 1); needs(-1, 0, 0, 1)")
            .given("story()")
            .refuses(INDEX, "needs(1, 0, 0, 1)").due("needs(0, 0, 0, 1)", 3);
        Edge.of(25, "if there is no such STORY").given(Houses.FULL)
            .refuses(INDEX, "needs(6, 0, 0, 1); needs(-1, 3, 0, 1); needs(MIN, 0, 0, 1); needs(MAX, 0, 0, 1)")
            .due("needs(5, 3, 23, 1)", 0);
        Edge.of(25, "or fact is not 0 to 3").given(Houses.BUSY)
            .refuses(INDEX, "needs(0, 4, 0, 1); needs(0, -1, 0, 1); needs(1, 4, 0, 1); needs(1, -1, 0, 1)")
            .refuses(INDEX, "needs(0, MIN, 0, 1); needs(0, MAX, 0, 1)").due("needs(0, 0, 40, 1)", 0)
            .due("needs(1, 3, 0, 1)", 0);
        Edge.of(25, "if value is not 0 to 99").given(Houses.BUSY)
            .refuses(ARGUMENT, "needs(0, 0, -1, 1); needs(0, 0, 100, 1); needs(0, 0, MIN, 1); needs(0, 0, MAX, 1)")
            .due("needs(1, 3, 0, 1)", 0).due("needs(0, 1, 99, 1)", 0);
        Edge.of(25, "or weight not 1 to 3").given(Houses.BUSY)
            .refuses(ARGUMENT, "needs(0, 0, 40, 0); needs(0, 0, 40, 4); needs(0, 0, 0, -1); needs(0, 0, 0, MIN)")
            .refuses(ARGUMENT, "needs(0, 0, 0, MAX)").due("needs(0, 0, 0, 1)", 3).due("needs(0, 0, 0, 3)", 1);
    }

    private static void lead() {
        String words = "in a LEAD with no more than so many WORDS";
        Edge.of(26, words).given(HOUSE).given("retract(1, 0, 3)").dueEach("lead(0, 0); lead(0, 34)", 0)
            .dueEach("lead(0, 35); lead(0, 49)", 1)
            .dueEach("lead(0, 50); lead(0, 64)", 3).dueEach("lead(0, 65); lead(0, 79)", 7)
            .dueEach("lead(0, 80); lead(0, 99)", 15);
        Edge.of(26, "Returns the set of FACTS with a TRUTH").given(Houses.STORY).due("lead(0, 99)", 7)
            .given("retract(0, 0, 0)").due("lead(0, 99)", 6).due("lead(0, 35)", 2).given("retract(0, 0, 1)")
            .due("lead(0, 99)", 4).given("report(0, 0, 3, 13); retract(0, 0, 2)").due("lead(0, 99)", 8);
        Edge.of(26, "Returns the set of FACTS with a TRUTH").given(HOUSE)
            .given("report(0, 0, 0, 0); report(0, 0, 3, 99)")
            .due("lead(0, 99)", 15).given("retract(0, 0, 1); retract(0, 0, 2); retract(0, 0, 3)").due("lead(0, 99)", 1);
        Edge.of(26, "for which the sum of FORCES of their TRUTHS is greatest; of several the smallest number")
            .given(HOUSE)
            .given("retract(1, 0, 3)").due("lead(0, 35)", 1).given("report(1, 0, 2, 12)").due("lead(0, 35)", 4)
            .due("lead(0, 50)", 5).given("report(1, 0, 3, 13)").due("lead(0, 35)", 4).due("lead(0, 50)", 12)
            .due("lead(0, 65)", 13).given("report(1, 0, 1, 11)").due("lead(0, 35)", 2).due("lead(0, 50)", 6)
            .due("lead(0, 65)", 14).given("retract(1, 0, 3)").due("lead(0, 65)", 7).due("lead(0, 50)", 6)
            .due("lead(0, 80)", 15).given("report(1, 0, 0, 99)").due("lead(0, 35)", 2).given("retract(1, 0, 2)")
            .due("lead(0, 50)", 3);
        Edge.of(26, "0, if there is none").given("source(1, NONE); source(3, NONE); story(); story()")
            .due("lead(0, 99)", 0)
            .given("report(0, 0, 0, 5)").due("lead(0, 99)", 0).given("report(1, 0, 0, 5)").due("lead(0, 99)", 1)
            .due("lead(0, 34)", 0).due("lead(1, 99)", 0).given("retract(1, 0, 0)").due("lead(0, 99)", 0);
    }

    private static void leadRefused() {
        Edge.of(26, "if there is no such STORY").refuses(INDEX, "lead(0, 0); lead(-1, 0)").given("story()")
            .refuses(INDEX, "lead(1, 0)").due("lead(0, 0)", 0);
        Edge.of(26, "if there is no such STORY").given(Houses.FULL)
            .refuses(INDEX, "lead(6, 99); lead(-1, 99); lead(MIN, 99); lead(MAX, 99)").due("lead(5, 99)", 15);
        Edge.of(26, "if words is not 0 to 99").given(Houses.BUSY)
            .refuses(ARGUMENT, "lead(0, -1); lead(0, 100); lead(0, MIN); lead(0, MAX)").due("lead(0, 0)", 0)
            .due("lead(0, 99)", 3);
    }

    private static void digest() {
        List<String> nothing = Collections.nCopies(11, "0");
        Edge.of(27, "A number d starts with 58223").due("digest()", sumOf(nothing));
        String list = "many() of 0 to 10; STORY by STORY, FACT by FACT ofFact() of 0 to 6, needs() of 50 and 2; STORY by STORY"
            + " lead() of 55; TAKE by TAKE ofTake() of 0 to 8, says() of 0 to 3; LINE by LINE ofLine() of 0 to 7,"
            + " wouldArrive() of 3 and 50, TAKE by TAKE state(); LINE by LINE, STORY by STORY, FACT by FACT tells()";
        String take = Houses.STORY + "; file(0, 4, 7, false, 0)";
        for (String house : new String[] {"source(3, NONE)", "story()", "line(1, 0)", "story(); line(1, 0)", take,
            take + "; line(1, 0)", "line(5, 2); " + take, "source(3, NONE); story(); report(0, 0, 3, 50)", Houses.BUSY}) {
            Edge edge = Edge.of(27, list).given(house);
            edge.due("digest()", sumOf(edge.soFar().answers(summed(edge.soFar()))));
        }
        String wraps = "d becomes d * 31 + v, which wraps around as a 64-bit integer";
        for (String house : new String[] {"story()", HOUSE, Houses.BUSY, Houses.FULL}) {
            Edge edge = Edge.of(27, wraps).given(house);
            edge.leaves("digest()", sumOf(edge.soFar().answers(summed(edge.soFar()))));
        }
    }

    /** The document's sum in whole numbers without bound, of which the last 64 bits are left. */
    private static long sumOf(List<String> answers) {
        BigInteger d = BigInteger.valueOf(58223);
        for (String answer : answers) {
            d = d.multiply(BigInteger.valueOf(31)).add(new BigInteger(answer));
        }
        Check.due("the sum is beyond 64 bits", d.bitLength() > 64, true);
        return d.longValue();
    }

    /** The questions that go into the sum, in the document's order. */
    private static List<Call> summed(Run run) {
        List<Call> calls = new ArrayList<>();
        int stories = Integer.parseInt(run.answer("many(2)"));
        int lines = Integer.parseInt(run.answer("many(3)"));
        int takes = Integer.parseInt(run.answer("many(4)"));
        add(calls, "many(", 10);
        for (int i = 0; i < stories * 4; i++) {
            add(calls, "ofFact(" + i / 4 + ", " + i % 4 + ", ", 6);
            calls.add(Call.of("needs(" + i / 4 + ", " + i % 4 + ", 50, 2)"));
        }
        for (int s = 0; s < stories; s++) {
            calls.add(Call.of("lead(" + s + ", 55)"));
        }
        for (int t = 0; t < takes; t++) {
            add(calls, "ofTake(" + t + ", ", 8);
            add(calls, "says(" + t + ", ", 3);
        }
        for (int l = 0; l < lines; l++) {
            add(calls, "ofLine(" + l + ", ", 7);
            calls.add(Call.of("wouldArrive(" + l + ", 3, 50)"));
            add(calls, "state(" + l + ", ", takes - 1);
        }
        for (int i = 0; i < lines * stories; i++) {
            add(calls, "tells(" + i / stories + ", " + i % stories + ", ", 3);
        }
        return calls;
    }

    /** The call with its last argument from 0 up to that. */
    private static void add(List<Call> calls, String ahead, int last) {
        for (int i = 0; i <= last; i++) {
            calls.add(Call.of(ahead + i + ")"));
        }
    }
}
