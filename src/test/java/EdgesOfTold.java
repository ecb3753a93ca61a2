/** The edges that promises 1 to 8 name: a new object, and what is told. */
final class EdgesOfTold {
    private static final String INDEX = Edge.INDEX;
    private static final String ARGUMENT = Edge.ARGUMENT;
    private static final String STATE = Edge.STATE;

    private EdgesOfTold() {
    }

    static void test() {
        newObject();
        source();
        story();
        line();
        report();
        reportRefused();
        retract();
        retractRefused();
        rival();
        down();
    }

    private static void newObject() {
        String sentence = "Creates a house without SOURCES, STORIES and LINES";
        Edge fresh = Edge.of(1, sentence);
        for (int what = 0; what <= 10; what++) {
            fresh.due("many(" + what + ")", 0);
        }
        fresh.dueExactly("meanDelay()", 0.0).due("pass(99)", 0).due("many(0)", 99);
        Edge.of(1, sentence)
            .refuses(INDEX, "source(1, 0); report(0, 0, 0, 0); retract(0, 0, 0); rival(0, 0); down(0, 0);"
                + "file(0, 0, 1, false, 0); correct(0, 0); kill(0); areIndependent(0, 0); ofFact(0, 0, 0);"
                + "proof(0, 0, 0, true); ofTake(0, 0); says(0, 0); state(0, 0); tells(0, 0, 0); ofLine(0, 0);"
                + "arrives(0, 0); wouldArrive(0, 0, 1); needs(0, 0, 0, 1); lead(0, 0)")
            .due("source(1, NONE)", 0).due("story()", 0).due("line(1, 0)", 0);
        Edge.of(1, sentence).given("story(); line(1, 0)").refuses(INDEX, "report(0, 0, 0, 0); retract(0, 0, 0)");
        Edge.of(1, sentence).given("source(1, NONE); line(1, 0)")
            .refuses(INDEX, "report(0, 0, 0, 0); retract(0, 0, 0); tells(0, 0, 0)");
        Edge.of(1, sentence).given(Houses.STORY).given("file(0, 0, 1, false, 0)")
            .refuses(INDEX, "state(0, 0); tells(0, 0, 0); arrives(0, 0)").due("kill(0)", 0).due("pass(99)", 0);
    }

    private static void source() {
        Edge numbers = Edge.of(2, "Returns its number");
        for (int n = 0; n < 10; n++) {
            numbers.due("source(" + (1 + n % 3) + ", " + (n - 1) + ")", n);
        }
        Edge.of(2, "if of is neither NONE nor a SOURCE")
            .refuses(INDEX, "source(1, 0); source(1, -2); source(3, 1); source(1, MIN); source(1, MAX)")
            .due("source(1, NONE)", 0).refuses(INDEX, "source(1, 1); source(1, -2)").due("source(1, 0)", 1);
        Edge.of(2, "if of is neither NONE nor a SOURCE").given(Houses.BUSY)
            .refuses(INDEX, "source(1, 4); source(1, 9); source(1, 10); source(1, -2); source(1, MAX)")
            .due("source(1, 3)", 4).due("areIndependent(4, 1)", false).due("source(1, NONE)", 5);
        Edge.of(2, "if weight is not 1 to 3").given(Houses.BUSY)
            .refuses(ARGUMENT, "source(0, NONE); source(4, NONE); source(-1, 3); source(4, 0); source(MIN, 0)")
            .refuses(ARGUMENT, "source(MAX, NONE)").due("source(1, NONE)", 4).due("source(3, 3)", 5)
            .due("report(5, 1, 0, 5)", 3).due("report(4, 1, 1, 5)", 0).due("proof(1, 1, 5, true)", 1);
        Edge.of(2, "if there are 10").given("source(3, NONE)").given(8, "source(1, 0)").due("source(3, 8)", 9)
            .refuses(STATE, "source(1, NONE); source(3, 9); source(2, 0)").due("areIndependent(9, 0)", false);
        Edge.of(2, "if there are 10").given(Houses.FULL).refuses(STATE, "source(1, NONE); source(3, 9)");
    }

    private static void story() {
        Edge numbers = Edge.of(3, "Returns its number");
        for (int n = 0; n < 6; n++) {
            numbers.due("story()", n);
        }
        Edge.of(3, "if there are 6").given(5, "story()").due("story()", 5).refuses(STATE, "story()")
            .due("ofFact(5, 3, 0)", -1);
        Edge.of(3, "if there are 6").given(Houses.FULL).refuses(STATE, "story()").due("ofFact(5, 3, 0)", 23);
    }

    private static void line() {
        Edge.of(4, "Returns its number").due("line(60, 9)", 0).due("line(1, 0)", 1).due("line(2, 1)", 2)
            .due("line(59, 8)", 3);
        Edge.of(4, "if speed is not 1 to 60").given(Houses.BUSY)
            .refuses(ARGUMENT, "line(0, 0); line(61, 0); line(-1, 9); line(MIN, 0); line(MAX, 0)")
            .due("line(1, 5)", 2).due("line(60, 5)", 3).due("ofLine(2, 0)", 1).due("ofLine(3, 0)", 60);
        Edge.of(4, "or lag not 0 to 9").given(Houses.BUSY)
            .refuses(ARGUMENT, "line(1, -1); line(1, 10); line(60, -1); line(1, MIN); line(1, MAX)")
            .due("line(5, 0)", 2).due("line(5, 9)", 3).due("ofLine(2, 1)", 0).due("ofLine(3, 1)", 9);
        Edge.of(4, "if there are 4").given(3, "line(1, 0)").due("line(2, 0)", 3)
            .refuses(STATE, "line(1, 0); line(60, 9)").due("ofLine(3, 0)", 2);
        Edge.of(4, "if there are 4").given(Houses.FULL).refuses(STATE, "line(1, 0); line(60, 9)");
    }

    private static void report() {
        Edge.of(5, "Returns the PROOF of that VALUE then")
            .given("source(1, NONE); source(1, NONE); source(2, NONE); source(2, 0); source(3, NONE); story()")
            .due("report(0, 0, 0, 5)", 0).due("report(1, 0, 0, 5)", 0).due("report(2, 0, 0, 5)", 1)
            .due("report(3, 0, 0, 5)", 2).due("report(4, 0, 0, 5)", 3).due("report(4, 0, 0, 6)", 3)
            .due("report(0, 0, 0, 5)", 2).due("report(3, 0, 0, 6)", 3).due("report(4, 0, 0, 7)", 3)
            .due("report(3, 0, 0, 5)", 2).due("report(3, 0, 0, 6)", 0);
    }

    private static void reportRefused() {
        Edge.of(5, "if there is no such SOURCE").given("story()")
            .refuses(INDEX, "report(0, 0, 0, 5); report(-1, 0, 0, 5)").given("source(3, NONE)")
            .refuses(INDEX, "report(1, 0, 0, 5); report(-1, 0, 0, 5)").due("report(0, 0, 0, 5)", 3);
        Edge.of(5, "if there is no such SOURCE").given(Houses.BUSY)
            .refuses(INDEX, "report(4, 0, 0, 5); report(9, 0, 0, 5); report(10, 1, 0, 5); report(-1, 1, 3, 5)")
            .refuses(INDEX, "report(MIN, 0, 0, 5); report(MAX, 0, 0, 5)")
            .due("report(3, 0, 0, 5)", 0).due("report(0, 0, 0, 5)", 3);
        Edge.of(5, "if there is no such SOURCE").given(Houses.FULL)
            .refuses(INDEX, "report(10, 0, 0, 5)").due("report(9, 0, 0, 5)", 0);
        Edge.of(5, "or STORY").given("source(3, NONE)")
            .refuses(INDEX, "report(0, 0, 0, 5); report(0, -1, 0, 5)").given("story()")
            .refuses(INDEX, "report(0, 1, 0, 5)").due("report(0, 0, 0, 5)", 3);
        Edge.of(5, "or STORY").given(Houses.BUSY)
            .refuses(INDEX, "report(0, 2, 0, 5); report(0, 5, 0, 5); report(0, 6, 0, 5); report(0, -1, 3, 5)")
            .refuses(INDEX, "report(0, MIN, 0, 5); report(0, MAX, 0, 5)").due("report(0, 1, 0, 5)", 3);
        Edge.of(5, "or STORY").given(Houses.FULL).refuses(INDEX, "report(0, 6, 0, 5)").due("report(0, 5, 0, 5)", 3);
        Edge.of(5, "or fact is not 0 to 3").given(Houses.BUSY)
            .refuses(INDEX, "report(0, 0, 4, 5); report(0, 0, -1, 5); report(0, 1, -1, 5); report(0, 1, 4, 5)")
            .refuses(INDEX, "report(0, 0, MIN, 5); report(0, 0, MAX, 5)")
            .due("report(0, 0, 0, 5)", 3).due("report(0, 1, 3, 5)", 3).due("ofFact(1, 3, 0)", 5);
        Edge.of(5, "if value is not 0 to 99").given(Houses.BUSY)
            .refuses(ARGUMENT, "report(0, 0, 0, -1); report(0, 0, 0, 100); report(0, 0, 0, -2); report(0, 0, 0, MIN)")
            .refuses(ARGUMENT, "report(0, 0, 0, MAX); report(3, 1, 2, -1)")
            .due("report(0, 0, 0, 0)", 3).due("ofFact(0, 0, 0)", 0).due("report(0, 0, 0, 99)", 3)
            .due("ofFact(0, 0, 0)", 99);
    }

    private static void retract() {
        Edge.of(6, "Returns the VALUE that it SAID").given("source(3, NONE); source(1, NONE); story()")
            .given("report(0, 0, 0, 99); report(1, 0, 0, 0); report(0, 0, 3, 0)")
            .due("retract(0, 0, 0)", 99).due("ofFact(0, 0, 0)", -1).due("ofFact(0, 0, 1)", 0)
            .due("retract(1, 0, 0)", 0).due("ofFact(0, 0, 1)", -1).due("retract(0, 0, 3)", 0)
            .due("ofFact(0, 3, 0)", -1);
        Edge.of(6, "Returns the VALUE that it SAID").given(Houses.FULL)
            .due("retract(0, 5, 3)", 23).due("ofFact(5, 3, 2)", 0).due("retract(0, 0, 0)", 70);
        String nothing = "if it SAYS nothing of that";
        Edge.of(6, nothing).given("source(3, NONE); source(1, NONE); story(); story()")
            .refuses(STATE, "retract(0, 0, 0); retract(1, 1, 3)").given("report(0, 0, 0, 0)")
            .refuses(STATE, "retract(1, 0, 0); retract(0, 1, 0); retract(0, 0, 1); retract(0, 0, 3)")
            .due("retract(0, 0, 0)", 0).refuses(STATE, "retract(0, 0, 0)").given("report(0, 0, 0, 7)")
            .due("retract(0, 0, 0)", 7);
        Edge.of(6, nothing).given(Houses.BUSY)
            .refuses(STATE, "retract(1, 0, 0); retract(2, 0, 0); retract(0, 0, 2); retract(0, 1, 0)")
            .due("retract(0, 0, 0)", 40).refuses(STATE, "retract(0, 0, 0)");
    }

    private static void retractRefused() {
        Edge.of(6, "if there is no such SOURCE").given("story()").refuses(INDEX, "retract(0, 0, 0); retract(-1, 0, 0)");
        Edge.of(6, "if there is no such SOURCE").given(Houses.BUSY).given("report(3, 0, 0, 8)")
            .refuses(INDEX, "retract(4, 0, 0); retract(-1, 0, 0); retract(10, 0, 0); retract(MIN, 0, 0)")
            .refuses(INDEX, "retract(MAX, 0, 0)").due("retract(3, 0, 0)", 8).due("retract(0, 0, 0)", 40);
        Edge.of(6, "or STORY").given("source(1, NONE)").refuses(INDEX, "retract(0, 0, 0); retract(0, -1, 0)");
        Edge.of(6, "or STORY").given(Houses.BUSY)
            .refuses(INDEX, "retract(0, 2, 0); retract(0, 6, 0); retract(0, -1, 0); retract(0, MIN, 0)")
            .refuses(INDEX, "retract(0, MAX, 0)").due("retract(0, 1, 3)", 0).due("retract(0, 0, 1)", 99);
        Edge.of(6, "or fact is not 0 to 3").given(Houses.BUSY)
            .refuses(INDEX, "retract(0, 0, 4); retract(0, 0, -1); retract(0, 1, 4); retract(0, 1, -1)")
            .refuses(INDEX, "retract(0, 0, MIN); retract(0, 0, MAX); retract(0, 0, 7)")
            .due("retract(0, 0, 0)", 40).due("retract(0, 1, 3)", 0);
    }

    private static void rival() {
        Edge.of(7, "Returns whether none did ahead of that").given("story(); story()").due("rival(0, 0)", true)
            .due("rival(0, 0)", false).given("pass(99)").due("rival(0, 0)", false).due("rival(0, 1)", true)
            .due("rival(0, 1)", false).due("rival(1, 0)", true).due("rival(1, 3)", true).due("rival(1, 3)", false)
            .due("ofFact(0, 0, 4)", 0).due("ofFact(1, 3, 4)", 99).due("ofFact(0, 3, 4)", -1);
        Edge.of(7, "if there is no such STORY").refuses(INDEX, "rival(0, 0); rival(-1, 0)").given("story()")
            .refuses(INDEX, "rival(1, 0)").due("rival(0, 0)", true);
        Edge.of(7, "if there is no such STORY").given(Houses.BUSY)
            .refuses(INDEX, "rival(2, 0); rival(6, 0); rival(-1, 0); rival(-1, 3); rival(MIN, 0); rival(MAX, 0)")
            .due("rival(1, 0)", true).due("rival(0, 0)", false);
        Edge.of(7, "or fact is not 0 to 3").given(Houses.BUSY)
            .refuses(INDEX, "rival(0, 4); rival(0, -1); rival(1, 4); rival(1, -1); rival(0, MIN); rival(0, MAX)")
            .due("rival(0, 3)", true).due("rival(1, 0)", true);
    }

    private static void down() {
        Edge.of(8, "Returns for how many it was").given("line(1, 0); line(1, 0)").due("down(0, 99)", 0)
            .due("down(0, 0)", 99).due("down(0, 1)", 0).due("down(1, 7)", 0).given("pass(1)").due("down(0, 5)", 0)
            .due("down(1, 0)", 6);
        String place = "is DOWN from now on for so many minutes (in place of what it was)";
        Edge.of(8, place).given(Houses.STORY).given("line(60, 0); file(0, 0, 1, false, 0); down(0, 99); down(0, 1)")
            .due("ofLine(0, 2)", 1).due("pass(1)", 0).due("ofLine(0, 2)", 0).due("pass(1)", 1);
        Edge.of(8, place).given(Houses.STORY).given("line(60, 0); file(0, 0, 1, false, 0); down(0, 1); down(0, 99)")
            .due("ofLine(0, 2)", 99).due("pass(99)", 0).due("ofLine(0, 2)", 0).due("pass(1)", 1);
        Edge.of(8, place).given(Houses.STORY).given("line(60, 0); file(0, 0, 1, false, 0); down(0, 9); down(0, 0)")
            .due("ofLine(0, 2)", 0).due("pass(1)", 1);
        Edge.of(8, "if there is no such LINE").refuses(INDEX, "down(0, 1); down(-1, 1)").given("line(1, 0)")
            .refuses(INDEX, "down(1, 1)").due("down(0, 1)", 0);
        Edge.of(8, "if there is no such LINE").given(Houses.BUSY)
            .refuses(INDEX, "down(2, 1); down(3, 1); down(4, 1); down(-1, 1); down(MIN, 1); down(MAX, 1)")
            .due("down(1, 1)", 5).due("down(0, 1)", 0);
        Edge.of(8, "if minutes is not 0 to 99").given(Houses.BUSY)
            .refuses(ARGUMENT, "down(1, -1); down(1, 100); down(0, -1); down(0, 100); down(1, MIN); down(1, MAX)")
            .due("down(1, 0)", 5).due("down(1, 99)", 0).due("ofLine(1, 2)", 99);
    }
}
