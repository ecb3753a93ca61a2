/** The edges that promises 13 to 22 name: what is asked. */
final class EdgesOfAsked {
    private static final String INDEX = Edge.INDEX;
    private static final String ARGUMENT = Edge.ARGUMENT;

    /** A story with four true facts, and a line. */
    private static final String HOUSE = Houses.STORY + "; report(0, 0, 3, 13); line(60, 0)";

    private EdgesOfAsked() {
    }

    static void test() {
        areIndependent();
        ofFactSaid();
        ofFactTold();
        ofFactRefused();
        proof();
        proofRefused();
        ofTake();
        ofTakeRefused();
        says();
        state();
        stateRefused();
        tells();
        tellsRefused();
        ofLine();
        ofLineWords();
        ofLineTold();
        ofLineRefused();
        manyThere();
        manyTakes();
        manyFacts();
        manyRefused();
        meanDelay();
    }

    private static void areIndependent() {
        Edge.of(13, "Returns whether they are INDEPENDENT")
            .given("source(1, NONE); source(1, NONE); source(1, 0)").due("areIndependent(0, 0)", false)
            .due("areIndependent(2, 2)", false).due("areIndependent(0, 2)", false).due("areIndependent(2, 0)", false)
            .due("areIndependent(0, 1)", true).due("areIndependent(1, 0)", true).due("areIndependent(1, 2)", true);
        Edge.of(13, "if there is no such SOURCE").refuses(INDEX, "areIndependent(0, 0); areIndependent(-1, -1)")
            .given("source(1, NONE)").refuses(INDEX, "areIndependent(0, 1); areIndependent(1, 0); areIndependent(1, 1)")
            .due("areIndependent(0, 0)", false);
        Edge.of(13, "if there is no such SOURCE").given(Houses.BUSY)
            .refuses(INDEX, "areIndependent(4, 0); areIndependent(0, 4); areIndependent(-1, 0); areIndependent(0, -1)")
            .refuses(INDEX, "areIndependent(MIN, 0); areIndependent(0, MIN); areIndependent(MAX, 0)")
            .refuses(INDEX, "areIndependent(0, MAX)").due("areIndependent(3, 0)", true)
            .due("areIndependent(1, 3)", false);
        Edge.of(13, "if there is no such SOURCE").given(Houses.FULL)
            .refuses(INDEX, "areIndependent(10, 0); areIndependent(0, 10)").due("areIndependent(9, 0)", true);
    }

    private static void ofFactSaid() {
        Edge.of(14, "0 its TRUTH").given("source(3, NONE); source(1, NONE); story()").due("ofFact(0, 0, 0)", -1)
            .given("report(1, 0, 0, 50)").due("ofFact(0, 0, 0)", -1).given("report(0, 0, 0, 0)")
            .due("ofFact(0, 0, 0)", 0)
            .given("report(0, 0, 0, 99)").due("ofFact(0, 0, 0)", 99).given("retract(0, 0, 0)")
            .due("ofFact(0, 0, 0)", -1);
        Edge.of(14, "1 what is HEARD").given("source(3, NONE); source(1, NONE); story()").due("ofFact(0, 0, 1)", -1)
            .given("report(1, 0, 0, 0)").due("ofFact(0, 0, 1)", 0).given("report(0, 0, 0, 99)")
            .due("ofFact(0, 0, 1)", 99)
            .given("retract(0, 0, 0)").due("ofFact(0, 0, 1)", 0).given("retract(1, 0, 0)").due("ofFact(0, 0, 1)", -1);
        Edge sayers = Edge.of(14, "2 how many SOURCES SAY something of it").given("story()").due("ofFact(0, 0, 2)", 0);
        Edge values = Edge.of(14, "3 how many VALUES of it are SAID").given("story()").due("ofFact(0, 0, 3)", 0);
        for (int n = 0; n < 10; n++) {
            sayers.given("source(1, NONE)").due("ofFact(0, 0, 2)", n).given("report(" + n + ", 0, 0, " + n % 3 + ")")
                .due("ofFact(0, 0, 2)", n + 1);
            values.given("source(1, NONE); report(" + n + ", 0, 0, 0)").due("ofFact(0, 0, 3)", 1);
        }
        for (int n = 1; n < 10; n++) {
            values.given("report(" + n + ", 0, 0, " + 11 * n + ")").due("ofFact(0, 0, 3)", n + 1);
        }
        values.given("retract(0, 0, 0)").due("ofFact(0, 0, 3)", 9);
        sayers.dueEach("ofFact(0, 1, 2); ofFact(0, 3, 2)", 0).given("retract(9, 0, 0)").due("ofFact(0, 0, 2)", 9);
    }

    private static void ofFactTold() {
        Edge.of(14, "4 the minute in which a RIVAL told it first (NONE)").given("story()").due("ofFact(0, 0, 4)", -1)
            .given("rival(0, 0)").due("ofFact(0, 0, 4)", 0).due("ofFact(0, 1, 4)", -1).given(101, "pass(99)")
            .given("rival(0, 0); rival(0, 3)").due("ofFact(0, 0, 4)", 0).due("ofFact(0, 3, 4)", 9999);
        Edge.of(14, "5 the minute from which on a desk HAD it first (NONE)").given(HOUSE).given("line(60, 9)")
            .due("ofFact(0, 0, 5)", -1).given("file(0, 0, 1, false, 0)").due("ofFact(0, 0, 5)", -1).given("pass(1)")
            .due("ofFact(0, 0, 5)", 1).due("ofFact(0, 1, 5)", -1).given("pass(20)").due("ofFact(0, 0, 5)", 1)
            .given("file(0, 3, 3, false, 0); pass(9)").due("ofFact(0, 0, 5)", 1).due("ofFact(0, 1, 5)", 22);
        Edge.of(14, "5 the minute from which on a desk HAD it first (NONE)").given(Houses.STORY)
            .given("line(60, 9); line(1, 0)")
            .given("file(0, 0, 1, false, 0); pass(7)").due("ofFact(0, 0, 5)", -1).given("pass(1)")
            .due("ofFact(0, 0, 5)", 8).given("pass(2)").due("ofFact(0, 0, 5)", 8);
        Edge.of(14, "6 1 if we are FIRST, otherwise 0").given(HOUSE).given("rival(0, 0); file(0, 3, 15, false, 0)")
            .dueEach("ofFact(0, 0, 6); ofFact(0, 1, 6)", 0).given("pass(1); rival(0, 1); pass(1); rival(0, 2)")
            .dueEach("ofFact(0, 0, 6); ofFact(0, 1, 6); ofFact(0, 2, 6)", 0).due("ofFact(0, 3, 6)", 1)
            .given("pass(1); rival(0, 3)").due("ofFact(0, 3, 6)", 1).due("ofFact(0, 2, 6)", 0);
    }

    private static void ofFactRefused() {
        Edge.of(14, "if there is no such STORY").refuses(INDEX, "ofFact(0, 0, 0); ofFact(-1, 0, 0)").given("story()")
            .refuses(INDEX, "ofFact(1, 0, 0)").due("ofFact(0, 0, 0)", -1);
        Edge.of(14, "if there is no such STORY").given(Houses.FULL)
            .refuses(INDEX, "ofFact(6, 0, 0); ofFact(-1, 3, 0); ofFact(MIN, 0, 0); ofFact(MAX, 0, 0)")
            .due("ofFact(5, 0, 0)", 20).due("ofFact(0, 1, 0)", 1);
        Edge.of(14, "or fact is not 0 to 3").given(Houses.BUSY)
            .refuses(INDEX, "ofFact(0, 4, 0); ofFact(0, -1, 0); ofFact(1, -1, 0); ofFact(1, 4, 0)")
            .refuses(INDEX, "ofFact(0, MIN, 0); ofFact(0, MAX, 0)").due("ofFact(0, 0, 0)", 40)
            .due("ofFact(1, 3, 0)", 0);
        Edge.of(14, "if what is not 0 to 6").given(Houses.BUSY)
            .refuses(ARGUMENT, "ofFact(0, 0, -1); ofFact(0, 0, 7); ofFact(1, 3, MIN); ofFact(1, 3, MAX)")
            .due("ofFact(0, 0, 0)", 40).due("ofFact(0, 0, 6)", 1);
    }

    private static void proof() {
        Edge.of(15, "Returns that (0, if none SAYS it)").given("source(3, NONE); source(2, 0); story(); story()")
            .dueEach("proof(0, 0, 0, true); proof(0, 0, 0, false); proof(1, 3, 99, true); proof(1, 3, 99, false)", 0)
            .given("report(0, 0, 0, 0); report(1, 1, 3, 99)").dueEach("proof(0, 0, 0, true); proof(0, 0, 0, false)", 3)
            .due("proof(1, 3, 99, true)", 2).due("proof(1, 3, 99, false)", 0)
            .dueEach("proof(0, 0, 1, true); proof(0, 0, 99, false); proof(1, 3, 98, true); proof(0, 1, 0, false)", 0)
            .given("retract(0, 0, 0)").dueEach("proof(0, 0, 0, true); proof(0, 0, 0, false)", 0);
        Edge.of(15, "whether its FORCE is asked for, or its PROOF")
            .given("source(2, NONE); source(2, NONE); source(1, NONE); story()").given("report(0, 0, 0, 7)")
            .due("proof(0, 0, 7, true)", 2).due("proof(0, 0, 7, false)", 0).given("report(1, 0, 0, 7)")
            .due("proof(0, 0, 7, true)", 4).due("proof(0, 0, 7, false)", 2).given("report(2, 0, 0, 7)")
            .due("proof(0, 0, 7, true)", 5).due("proof(0, 0, 7, false)", 2).given("retract(0, 0, 0)")
            .due("proof(0, 0, 7, true)", 3).due("proof(0, 0, 7, false)", 0);
    }

    private static void proofRefused() {
        Edge.of(15, "if there is no such STORY").refuses(INDEX, "proof(0, 0, 0, true); proof(-1, 0, 0, false)")
            .given("story()").refuses(INDEX, "proof(1, 0, 0, true)").due("proof(0, 0, 0, true)", 0);
        Edge.of(15, "if there is no such STORY").given(Houses.FULL)
            .refuses(INDEX, "proof(6, 0, 0, true); proof(-1, 3, 0, true); proof(MIN, 0, 0, true); proof(MAX, 0, 0, false)")
            .due("proof(5, 0, 20, true)", 3);
        Edge.of(15, "or fact is not 0 to 3").given(Houses.BUSY)
            .refuses(INDEX, "proof(0, 4, 0, true); proof(0, -1, 0, true); proof(1, -1, 0, false); proof(1, 4, 0, false)")
            .refuses(INDEX, "proof(0, MIN, 0, true); proof(0, MAX, 0, false)").due("proof(1, 3, 0, false)", 3)
            .due("proof(0, 0, 40, true)", 3);
        Edge.of(15, "if value is not 0 to 99").given(Houses.BUSY)
            .refuses(ARGUMENT, "proof(0, 0, -1, true); proof(0, 0, -1, false); proof(0, 0, 100, true)")
            .refuses(ARGUMENT, "proof(0, 0, 100, false); proof(0, 0, MIN, true); proof(0, 0, MAX, false)")
            .due("proof(1, 3, 0, true)", 3).due("proof(0, 1, 99, true)", 3);
    }

    private static void dueOfTake(Edge edge, int take, int... due) {
        for (int what = 0; what < due.length; what++) {
            edge.due("ofTake(" + take + ", " + what + ")", due[what]);
        }
    }

    private static void ofTake() {
        Edge each = Edge.of(16, "0 its STORY, 1 KIND, 2 the set of its FACTS, 3 WORDS, 4 HOLD, 5 1 if it is GUARDED,"
            + " otherwise 0, 6 1 if it is KILLED, otherwise 0").given("source(3, NONE)").given(6, "story()")
            .given("report(0, 0, 0, 5); report(0, 5, 0, 5); report(0, 5, 1, 5); report(0, 5, 2, 5); report(0, 5, 3, 5)")
            .given("file(0, 0, 1, false, 0); file(5, 4, 15, true, 9999); file(5, 3, 8, false, 1); kill(2)");
        dueOfTake(each, 0, 0, 0, 1, 8, 0, 0, 0, -1, 0);
        dueOfTake(each, 1, 5, 4, 15, 180, 9999, 1, 0, -1, 0);
        dueOfTake(each, 2, 5, 3, 8, 35, 1, 0, 1, -1, 0);
        dueOfTake(each, 3, 5, 1, 0, 5, 0, 0, 0, 2, 0);
        Edge target = Edge.of(16, "7 the TAKE that it CORRECTS or KILLS (NONE)").given(HOUSE)
            .given("file(0, 0, 1, false, 0); file(0, 0, 1, false, 0); report(0, 0, 0, 20); correct(0, 0); kill(0); kill(2)")
            .given("correct(1, 0)");
        int[] targets = {-1, -1, 0, 0, 2, 1};
        for (int take = 0; take < targets.length; take++) {
            target.due("ofTake(" + take + ", 7)", targets[take]);
        }
        Edge.of(16, "8 the minute in which it was filed").given(HOUSE).given("file(0, 0, 1, false, 50)")
            .given(101, "pass(99)").given("file(0, 0, 1, false, 0); report(0, 0, 0, 20); correct(0, 0); kill(0)")
            .due("ofTake(0, 8)", 0).dueEach("ofTake(1, 8); ofTake(2, 8); ofTake(3, 8)", 9999);
    }

    private static void ofTakeRefused() {
        Edge.of(16, "if there is no such TAKE").given(HOUSE).refuses(INDEX, "ofTake(0, 0); ofTake(-1, 0)")
            .given("file(0, 0, 1, false, 0)").refuses(INDEX, "ofTake(1, 0)").due("ofTake(0, 3)", 8);
        Edge.of(16, "if there is no such TAKE").given(Houses.BUSY)
            .refuses(INDEX, "ofTake(5, 0); ofTake(59, 0); ofTake(60, 0); ofTake(-1, 0); ofTake(MIN, 0); ofTake(MAX, 0)")
            .due("ofTake(4, 4)", 20);
        Edge.of(16, "if there is no such TAKE").given(Houses.FULL).refuses(INDEX, "ofTake(60, 0); ofTake(60, 9)")
            .due("ofTake(59, 0)", 5);
        Edge.of(16, "if what is not 0 to 8").given(Houses.BUSY)
            .refuses(ARGUMENT, "ofTake(0, -1); ofTake(0, 9); ofTake(4, 9); ofTake(4, MIN); ofTake(4, MAX)")
            .due("ofTake(4, 0)", 1).due("ofTake(4, 8)", 3);
    }

    private static void says() {
        Edge.of(17, "Returns its VALUE in that TAKE; NONE, if it has it not").given(HOUSE)
            .given("report(0, 0, 0, 0); report(0, 0, 3, 99); file(0, 3, 9, false, 0); report(0, 0, 0, 1); correct(0, 0)")
            .given("kill(1); retract(0, 0, 0)").due("says(0, 0)", 0).due("says(0, 1)", -1).due("says(0, 2)", -1)
            .due("says(0, 3)", 99).due("says(1, 0)", 1).due("says(1, 3)", -1)
            .dueEach("says(2, 0); says(2, 1); says(2, 2); says(2, 3)", -1);
        Edge.of(17, "if there is no such TAKE").given(HOUSE).refuses(INDEX, "says(0, 0); says(-1, 0)")
            .given("file(0, 0, 1, false, 0)").refuses(INDEX, "says(1, 0)").due("says(0, 0)", 10);
        Edge.of(17, "if there is no such TAKE").given(Houses.BUSY)
            .refuses(INDEX, "says(5, 0); says(59, 0); says(60, 0); says(-1, 0); says(MIN, 0); says(MAX, 0)")
            .due("says(4, 3)", 0).due("says(0, 0)", 50);
        Edge.of(17, "if there is no such TAKE").given(Houses.FULL).refuses(INDEX, "says(60, 0)").due("says(59, 3)", 23);
        Edge.of(17, "or fact is not 0 to 3").given(Houses.BUSY)
            .refuses(INDEX, "says(0, -1); says(0, 4); says(4, -1); says(4, 4); says(4, MIN); says(4, MAX)")
            .due("says(4, 0)", -1).due("says(4, 3)", 0);
    }

    private static void state() {
        Edge.of(18, "0 if it does not run there (any more)").given(HOUSE).given("file(0, 0, 1, false, 0); line(7, 0)")
            .due("state(1, 0)", 0).given("file(0, 3, 1, false, 0); pass(1); kill(1)").due("state(1, 0)", 0)
            .due("state(1, 1)", 0).due("state(1, 2)", 0).due("state(0, 2)", 1).given("pass(9)").due("state(1, 0)", 0)
            .due("state(1, 1)", 0);
        Edge.of(18, "1 if it runs and nothing of it is gone").given(HOUSE)
            .given("line(8, 0); file(0, 0, 1, false, 0); file(0, 0, 1, false, 0)").due("state(1, 1)", 1)
            .given("pass(1)")
            .due("state(1, 1)", 1).due("state(0, 1)", 4).given("pass(1)").due("state(1, 1)", 4);
        Edge.of(18, "2 if some WORDS are").given(HOUSE).given("line(1, 0); file(0, 0, 1, false, 0); pass(1)")
            .due("state(1, 0)", 2).given("pass(6)").due("state(1, 0)", 2).given("pass(1)").due("state(1, 0)", 4);
        Edge.of(18, "3 if it was SENT, and the desk has it not yet").given(HOUSE)
            .given("line(60, 1); line(60, 9); file(0, 0, 1, false, 0); pass(1)").due("state(0, 0)", 4)
            .due("state(1, 0)", 3).due("state(2, 0)", 3).given("pass(1)").due("state(1, 0)", 4).given("pass(7)")
            .due("state(2, 0)", 3).given("pass(1)").due("state(2, 0)", 4);
        Edge.of(18, "4 if the desk HAS it, 5 if it DROPPED it").given(Houses.STORY)
            .given("line(60, 1); file(0, 0, 1, false, 0); pass(2)").due("state(0, 0)", 4).given("kill(0)")
            .due("state(0, 0)", 4).given("pass(1)").due("state(0, 0)", 4).due("state(0, 1)", 3).given("pass(1)")
            .due("state(0, 0)", 5).due("state(0, 1)", 4).given("pass(99)").due("state(0, 0)", 5).due("state(0, 1)", 4);
    }

    private static void stateRefused() {
        Edge.of(18, "if there is no such LINE").given(Houses.STORY).given("file(0, 0, 1, false, 0)")
            .refuses(INDEX, "state(0, 0); state(-1, 0)").given("line(1, 0)").refuses(INDEX, "state(1, 0)")
            .due("state(0, 0)", 0);
        Edge.of(18, "if there is no such LINE").given(Houses.BUSY)
            .refuses(INDEX, "state(2, 0); state(3, 0); state(4, 0); state(-1, 0); state(MIN, 0); state(MAX, 0)")
            .due("state(1, 0)", 4).due("state(0, 0)", 2);
        Edge.of(18, "if there is no such LINE").given(Houses.FULL).refuses(INDEX, "state(4, 0)").due("state(3, 59)", 1);
        Edge.of(18, "or TAKE").given(HOUSE).refuses(INDEX, "state(0, 0); state(0, -1)").given("file(0, 0, 1, false, 0)")
            .refuses(INDEX, "state(0, 1)").due("state(0, 0)", 1);
        Edge.of(18, "or TAKE").given(Houses.BUSY)
            .refuses(INDEX, "state(0, 5); state(0, 59); state(0, 60); state(1, -1); state(0, MIN); state(0, MAX)")
            .due("state(1, 4)", 1).due("state(1, 1)", 5);
        Edge.of(18, "or TAKE").given(Houses.FULL).refuses(INDEX, "state(0, 60)").due("state(0, 59)", 1);
    }

    private static void tells() {
        Edge.of(19, "Returns what its desk TELLS of that").given(HOUSE)
            .given("line(60, 1); story(); report(0, 0, 0, 0)")
            .given("report(0, 1, 3, 99)").due("tells(0, 0, 0)", -1)
            .given("file(0, 0, 1, false, 0); file(1, 0, 8, false, 0); pass(1)").due("tells(0, 0, 0)", 0)
            .due("tells(0, 1, 3)", 99).due("tells(1, 0, 0)", -1).due("tells(0, 0, 3)", -1).due("tells(0, 1, 0)", -1)
            .given("pass(1)").due("tells(1, 0, 0)", 0).due("tells(1, 1, 3)", 99);
    }

    private static void tellsRefused() {
        Edge.of(19, "if there is no such LINE").given(Houses.STORY).refuses(INDEX, "tells(0, 0, 0); tells(-1, 0, 0)")
            .given("line(1, 0)").refuses(INDEX, "tells(1, 0, 0)").due("tells(0, 0, 0)", -1);
        Edge.of(19, "if there is no such LINE").given(Houses.BUSY)
            .refuses(INDEX, "tells(2, 0, 0); tells(4, 0, 0); tells(-1, 0, 0); tells(MIN, 0, 0); tells(MAX, 0, 0)")
            .due("tells(1, 0, 0)", 40);
        Edge.of(19, "if there is no such LINE").given(Houses.FULL).refuses(INDEX, "tells(4, 0, 0)")
            .due("tells(3, 0, 0)", -1).due("tells(0, 5, 3)", 23);
        Edge.of(19, "or STORY").given("line(1, 0)").refuses(INDEX, "tells(0, 0, 0); tells(0, -1, 0)").given("story()")
            .refuses(INDEX, "tells(0, 1, 0)").due("tells(0, 0, 0)", -1);
        Edge.of(19, "or STORY").given(Houses.BUSY)
            .refuses(INDEX, "tells(1, 2, 0); tells(1, 6, 0); tells(1, -1, 3); tells(1, MIN, 0); tells(1, MAX, 0)")
            .due("tells(1, 1, 3)", -1).due("tells(1, 0, 1)", 99);
        Edge.of(19, "or fact is not 0 to 3").given(Houses.BUSY)
            .refuses(INDEX, "tells(1, 0, 4); tells(1, 1, -1); tells(1, 0, -1); tells(1, 1, 4); tells(0, 0, MIN)")
            .refuses(INDEX, "tells(0, 0, MAX)").due("tells(1, 0, 0)", 40).due("tells(1, 0, 3)", -1);
    }

    private static void ofLine() {
        Edge.of(20, "0 its SPEED, 1 LAG").given("line(1, 9); line(60, 0)").due("ofLine(0, 0)", 1).due("ofLine(0, 1)", 9)
            .due("ofLine(1, 0)", 60).due("ofLine(1, 1)", 0);
        Edge.of(20, "2 for how many minutes it is DOWN").given("line(1, 0); line(1, 0)").due("ofLine(0, 2)", 0)
            .given("down(0, 99)").due("ofLine(0, 2)", 99).due("ofLine(1, 2)", 0).given("pass(98)")
            .due("ofLine(0, 2)", 1)
            .given("pass(1)").due("ofLine(0, 2)", 0).given("pass(1)").due("ofLine(0, 2)", 0);
        Edge.of(20, "3 TAKES that run there, and were not SENT").given(HOUSE).given("line(7, 0)")
            .dueEach("ofLine(0, 3); ofLine(1, 3)", 0).given(59, "file(0, 0, 1, false, 0)")
            .given("file(0, 0, 1, false, 9)")
            .dueEach("ofLine(0, 3); ofLine(1, 3)", 60).given("pass(1)").due("ofLine(0, 3)", 53).due("ofLine(1, 3)", 60)
            .given("pass(1)").due("ofLine(1, 3)", 59).given("pass(6)").due("ofLine(0, 3)", 1).given("pass(1)")
            .due("ofLine(0, 3)", 0);
    }

    private static void ofLineWords() {
        Edge.of(20, "4 their WORDS that are left").given(HOUSE).given("line(1, 0)")
            .dueEach("ofLine(0, 4); ofLine(1, 4)", 0)
            .given(60, "file(0, 4, 15, false, 0)").dueEach("ofLine(0, 4); ofLine(1, 4)", 10800)
            .given("pass(1)").due("ofLine(0, 4)", 10740).due("ofLine(1, 4)", 10799).given("pass(99); pass(79)")
            .due("ofLine(0, 4)", 60).due("ofLine(0, 3)", 1).given("pass(1)").due("ofLine(0, 4)", 0)
            .due("ofLine(0, 3)", 0);
        Edge.of(20, "4 their WORDS that are left").given(Houses.STORY)
            .given("line(1, 0); file(0, 0, 1, false, 0); pass(6)")
            .due("ofLine(0, 4)", 2).given("pass(1)").due("ofLine(0, 4)", 1).due("ofLine(0, 3)", 1).given("pass(1)")
            .due("ofLine(0, 4)", 0).due("ofLine(0, 3)", 0);
        Edge.of(20, "5 WORDS that were sent ever (of those that do not run any more, too)").given(HOUSE)
            .given("line(7, 0)")
            .due("ofLine(1, 5)", 0).given("file(0, 0, 1, false, 0); pass(1); kill(0)").due("ofLine(0, 5)", 8)
            .due("ofLine(1, 5)", 7).due("ofLine(1, 3)", 0).due("ofLine(1, 4)", 0).given("pass(1)")
            .due("ofLine(0, 5)", 13)
            .due("ofLine(1, 5)", 7).given("pass(99)").due("ofLine(0, 5)", 13);
        Edge.of(20, "5 WORDS that were sent ever (of those that do not run any more, too)").given(HOUSE)
            .given(60, "file(0, 4, 15, false, 0)").given("pass(99); pass(80)").due("ofLine(0, 5)", 10740)
            .given("pass(1)").due("ofLine(0, 5)", 10800).given("pass(1)").due("ofLine(0, 5)", 10800);
    }

    /** All 24 facts have the value 5, and are sent on four lines, at one of which they are two minutes late. */
    private static final String TOLD = "source(3, NONE); source(1, NONE)" + "; story()".repeat(6)
        + "; line(60, 0); line(60, 0); line(60, 0); line(60, 2)"
        + "; " + Houses.eachFact("report(0, STORY, FACT, 5)")
        + "; file(0, 3, 15, false, 0); file(1, 3, 15, false, 0); file(2, 3, 15, false, 0); file(3, 3, 15, false, 0)"
        + "; file(4, 3, 15, false, 0); file(5, 3, 15, false, 0)";

    private static void ofLineTold() {
        Edge told = Edge.of(20, "6 FACTS of all STORIES that its desk TELLS").given(TOLD).due("ofLine(0, 6)", 0)
            .given("pass(7)").due("ofLine(0, 6)", 20).due("ofLine(3, 6)", 12).given("pass(1)").due("ofLine(0, 6)", 24)
            .due("ofLine(3, 6)", 16).given("pass(1)").due("ofLine(3, 6)", 20).given("pass(1)").due("ofLine(3, 6)", 24)
            .given("kill(5)").due("ofLine(0, 6)", 24).given("pass(1)").due("ofLine(0, 6)", 20).due("ofLine(3, 6)", 24);
        told.given("pass(2)").due("ofLine(3, 6)", 20);
        Edge.of(20, "7 those of these that are WRONG").given(TOLD).due("ofLine(0, 7)", 0).given("pass(10)")
            .due("ofLine(0, 7)", 0).given(Houses.eachFact("report(0, STORY, FACT, 6)"))
            .dueEach("ofLine(0, 7); ofLine(1, 7); ofLine(2, 7); ofLine(3, 7)", 24).given("report(0, 0, 0, 5)")
            .due("ofLine(0, 7)", 23).given("retract(0, 5, 3)").due("ofLine(0, 7)", 22).given("report(1, 5, 3, 6)")
            .due("ofLine(0, 7)", 22).given("correct(0, 1); pass(1)").due("ofLine(0, 7)", 21).due("ofLine(3, 7)", 22)
            .given("pass(2)").due("ofLine(3, 7)", 21);
    }

    private static void ofLineRefused() {
        Edge.of(20, "if there is no such LINE").refuses(INDEX, "ofLine(0, 0); ofLine(-1, 0)").given("line(3, 0)")
            .refuses(INDEX, "ofLine(1, 0)").due("ofLine(0, 0)", 3);
        Edge.of(20, "if there is no such LINE").given(Houses.BUSY)
            .refuses(INDEX, "ofLine(2, 0); ofLine(3, 0); ofLine(4, 8); ofLine(-1, 0); ofLine(MIN, 0); ofLine(MAX, 0)")
            .due("ofLine(1, 0)", 60).due("ofLine(0, 0)", 7);
        Edge.of(20, "if there is no such LINE").given(Houses.FULL).refuses(INDEX, "ofLine(4, 0)")
            .due("ofLine(3, 0)", 7);
        Edge.of(20, "if what is not 0 to 7").given(Houses.BUSY)
            .refuses(ARGUMENT, "ofLine(0, -1); ofLine(0, 8); ofLine(1, -1); ofLine(1, 8); ofLine(0, MIN); ofLine(0, MAX)")
            .due("ofLine(1, 0)", 60).due("ofLine(1, 7)", 0);
    }

    private static void manyThere() {
        Edge.of(21, "0 NOW").due("many(0)", 0).given("pass(1)").due("many(0)", 1).given(100, "pass(99)")
            .given("pass(98)")
            .due("many(0)", 9999);
        Edge.of(21, "1 SOURCES").due("many(1)", 0).given("source(1, NONE)").due("many(1)", 1).given(9, "source(1, 0)")
            .due("many(1)", 10);
        Edge.of(21, "2 STORIES").due("many(2)", 0).given("story()").due("many(2)", 1).given(5, "story()")
            .due("many(2)", 6);
        Edge.of(21, "3 LINES").due("many(3)", 0).given("line(1, 0)").due("many(3)", 1).given(3, "line(1, 0)")
            .due("many(3)", 4);
    }

    private static void manyTakes() {
        Edge.of(21, "4 TAKES").given(HOUSE).due("many(4)", 0).given("file(0, 0, 1, false, 0)").due("many(4)", 1)
            .given("kill(0)").due("many(4)", 2).given(57, "file(0, 0, 1, false, 0)").given("report(0, 0, 0, 20)")
            .due("many(4)", 59).given("correct(2, 0)").due("many(4)", 60);
        Edge killed = Edge.of(21, "5 those that are KILLED").given(HOUSE).due("many(5)", 0)
            .given(30, "file(0, 0, 1, false, 0)").due("many(5)", 0);
        for (int take = 0; take < 30; take++) {
            killed.given("kill(" + take + ")").due("many(5)", take + 1);
        }
        Edge corrections = Edge.of(21, "6 CORRECTIONS").given(HOUSE)
            .given("file(0, 0, 1, false, 0); report(0, 0, 0, 20)");
        for (int n = 0; n < 59; n++) {
            corrections.due("many(6)", n).given("correct(0, 0)");
        }
        corrections.due("many(6)", 59);
        Edge.of(21, "6 CORRECTIONS").given(HOUSE)
            .given("file(0, 0, 1, false, 0); report(0, 0, 0, 20); correct(0, 0); pass(9)")
            .due("many(6)", 1).given("kill(1)").due("many(6)", 1).due("many(5)", 1).given("pass(9)").due("many(6)", 1);
    }

    private static void manyFacts() {
        Edge truths = Edge.of(21, "7 FACTS with a TRUTH").given("source(3, NONE); source(1, NONE)");
        Edge said = Edge.of(21, "8 FACTS that are SAID without one").given("source(3, NONE); source(1, NONE)");
        for (int n = 0; n < 24; n++) {
            String fact = n / 4 + ", " + n % 4;
            String story = n % 4 == 0 ? "story(); " : "";
            truths.due("many(7)", n).given(story + "report(1, " + fact + ", 5)").due("many(7)", n)
                .given("report(0, " + fact + ", 0)").due("many(7)", n + 1);
            said.due("many(8)", n).given(story + "report(0, " + fact + ", 5)").due("many(8)", n)
                .given("retract(0, " + fact + ")").due("many(8)", n).given("report(1, " + fact + ", 0)")
                .due("many(8)", n + 1);
        }
        said.given("retract(1, 0, 0); retract(1, 5, 3)").due("many(8)", 22);
        Edge.of(21, "9 FACTS with which we are FIRST").given(TOLD).due("many(9)", 0).given("pass(7)").due("many(9)", 20)
            .given("rival(0, 0); rival(5, 3); pass(1)").due("many(9)", 23).given("kill(1); pass(3)").due("many(9)", 23);
        Edge.of(21, "9 FACTS with which we are FIRST").given(TOLD).given("pass(8)").due("many(9)", 24);
        Edge.of(21, "10 WRONG ones at all desks together").given(TOLD).due("many(10)", 0).given("pass(9)")
            .due("many(10)", 0).given(Houses.eachFact("report(0, STORY, FACT, 99)")).due("many(10)", 92)
            .given("pass(1)")
            .due("many(10)", 96).given("report(0, 0, 0, 5)").due("many(10)", 92);
    }

    private static void manyRefused() {
        Edge.of(21, "if what is not 0 to 10").refuses(ARGUMENT, "many(-1); many(11); many(MIN); many(MAX)")
            .due("many(0)", 0).due("many(10)", 0);
        Edge.of(21, "if what is not 0 to 10").given(Houses.BUSY).refuses(ARGUMENT, "many(-1); many(11)")
            .due("many(0)", 3).due("many(10)", 0);
    }

    private static void meanDelay() {
        Edge.of(22, "0 without any").dueExactly("meanDelay()", 0.0).given(HOUSE)
            .given("file(0, 4, 15, false, 0); pass(2)")
            .dueExactly("meanDelay()", 0.0).given("kill(0); pass(9)").dueExactly("meanDelay()", 0.0);
        Edge.of(22, "from the minute in which it was filed, or its HOLD, if that is greater, up to that in which it was SENT")
            .given(HOUSE).given("pass(5); file(0, 0, 1, false, 6); pass(1)").dueExactly("meanDelay()", 0.0)
            .given("file(0, 0, 1, false, 6); pass(1)").dueExactly("meanDelay()", 0.5)
            .given("file(0, 0, 1, false, 6); pass(1)").dueExactly("meanDelay()", 2.0 / 3.0);
        Edge.of(22, "(KILLED ones, too)").given(HOUSE).given("file(0, 4, 15, false, 0); pass(3)")
            .dueExactly("meanDelay()", 3.0).given("kill(0)").dueExactly("meanDelay()", 3.0).given("pass(1)")
            .dueExactly("meanDelay()", 2.0).given("pass(9)").dueExactly("meanDelay()", 2.0);
        Edge.of(22, "not cut").given(Houses.STORY)
            .given("line(60, 0); line(60, 0); line(4, 0); file(0, 0, 1, false, 0)")
            .given("pass(2)").dueExactly("meanDelay()", 4.0 / 3.0);
        Edge.of(22, "over all TAKES and LINES where one was SENT").given(HOUSE)
            .given("line(60, 9); line(60, 0); line(60, 0)")
            .given("down(3, 99)").given(60, "file(0, 0, 1, false, 0)").given("pass(99)")
            .dueExactly("meanDelay()", 272.0 / 60.0).given("pass(8)")
            .dueExactly("meanDelay()", (4 * 272.0 + 60 * 99) / 240.0);
        Edge.of(22, "over all TAKES and LINES where one was SENT").given(Houses.STORY).given("file(0, 0, 1, false, 0)")
            .given("line(60, 0); line(1, 0)").given(100, "pass(99)").given("file(0, 0, 1, false, 9999)")
            .dueExactly("meanDelay()", 0.0).given("pass(98)").dueExactly("meanDelay()", 0.0).given("pass(1)")
            .dueExactly("meanDelay()", 0.0).due("state(0, 1)", 4).due("state(1, 1)", 2);
    }
}
