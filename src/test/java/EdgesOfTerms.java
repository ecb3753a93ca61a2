/** The edges that the sentences ahead of promise 1 name. */
final class EdgesOfTerms {
    private static final String INDEX = Edge.INDEX;
    private static final String ARGUMENT = Edge.ARGUMENT;
    private static final String STATE = Edge.STATE;

    private EdgesOfTerms() {
    }

    static void test() {
        calls();
        numbers();
        sources();
        roots();
        stories();
        reports();
        proofs();
        forces();
        truths();
        heard();
        takes();
        filed();
        words();
        corrected();
        killed();
        lines();
        minutes();
        urgency();
        sent();
        desks();
        wrong();
        rivals();
        exceptions();
        exceptionsOfTakes();
        wouldBe();
    }

    private static Edge edge(String sentence) {
        return Edge.of(Edge.TERMS, sentence);
    }

    private static void calls() {
        edge("An object is used for at most 512 calls after it has been made")
            .given(Houses.STORY).given("line(8, 0)").given(501, "pass(1)")
            .due("file(0, 0, 1, false, 0)", 0).due("pass(1)", 1).due("tells(0, 0, 0)", 10);
        edge("An object is used for at most 512 calls after it has been made")
            .given(Houses.STORY).given(504, "pass(1)").due("source(2, 1)", 2);
        edge("An object is used for at most 512 calls after it has been made")
            .given(511, "pass(1)").due("source(0, NONE)", ARGUMENT);
    }

    private static void numbers() {
        edge("NONE is -1").given("story()")
            .due("ofFact(0, 0, 0)", -1).due("source(1, -1)", 0).refuses(INDEX, "source(1, -2)");
        edge("NOW is 0 at first, in minutes (9999 at most)")
            .due("many(0)", 0).given(100, "pass(99)").given("pass(98)").due("many(0)", 9998).due("pass(1)", 0)
            .due("many(0)", 9999).refuses(STATE, "pass(1); pass(99)").due("many(0)", 9999);
    }

    private static void sources() {
        Edge ten = edge("SOURCES: at most 10, numbered from 0").due("many(1)", 0);
        for (int n = 0; n < 10; n++) {
            ten.due("source(1, NONE)", n);
        }
        ten.due("many(1)", 10).due("areIndependent(0, 9)", true)
            .refuses(STATE, "source(1, NONE); source(2, 0); source(3, 9)").refuses(INDEX, "areIndependent(0, 10)");
        edge("each with a WEIGHT (1 unnamed, 2 named, 3 official)")
            .refuses(ARGUMENT, "source(0, NONE); source(4, NONE)")
            .given("source(1, NONE); source(2, NONE); source(3, NONE); story()")
            .given("report(0, 0, 0, 5); report(1, 0, 1, 5); report(2, 0, 2, 5)")
            .due("proof(0, 0, 5, true)", 1).due("proof(0, 1, 5, true)", 2).due("proof(0, 2, 5, true)", 3);
        edge("and OF another one that was told ahead of it (it has from there what it knows), or of NONE")
            .refuses(INDEX, "source(1, 0)").due("source(1, NONE)", 0)
            .refuses(INDEX, "source(1, 1)").due("source(1, 0)", 1)
            .refuses(INDEX, "source(1, 2)").due("source(1, 1)", 2)
            .due("source(1, 0)", 3).due("source(1, NONE)", 4);
    }

    private static void roots() {
        edge("The ROOT of one that is OF NONE is itself").given("source(1, NONE); source(1, NONE)")
            .due("areIndependent(0, 1)", true).due("areIndependent(0, 0)", false).due("areIndependent(1, 1)", false);
        Edge chain = edge("otherwise the ROOT of the one that it is OF").given("source(1, NONE); story()");
        for (int n = 1; n < 10; n++) {
            chain.given("source(1, " + (n - 1) + ")");
        }
        chain.due("areIndependent(0, 9)", false).due("areIndependent(9, 0)", false).due("areIndependent(8, 9)", false)
            .due("areIndependent(1, 2)", false);
        for (int n = 0; n < 10; n++) {
            chain.due("report(" + n + ", 0, 0, 5)", 0);
        }
        chain.due("proof(0, 0, 5, true)", 1);
        edge("otherwise the ROOT of the one that it is OF")
            .given("source(1, NONE); source(1, NONE); source(1, 0); source(1, 1); source(1, 2); source(1, 3)")
            .due("areIndependent(4, 5)", true).due("areIndependent(0, 4)", false).due("areIndependent(1, 5)", false)
            .due("areIndependent(4, 1)", true).due("areIndependent(5, 0)", true);
        edge("Two are INDEPENDENT, if their ROOTS are two")
            .given("source(1, NONE); source(1, NONE); source(1, 0); source(1, 0)")
            .due("areIndependent(2, 3)", false).due("areIndependent(2, 1)", true).due("areIndependent(1, 2)", true)
            .due("areIndependent(2, 2)", false);
    }

    private static void stories() {
        Edge six = edge("STORIES: at most 6, numbered from 0").refuses(INDEX, "rival(0, 0)");
        for (int n = 0; n < 6; n++) {
            six.due("many(2)", n).due("story()", n).due("ofFact(" + n + ", 0, 0)", -1);
        }
        six.refuses(STATE, "story()").refuses(INDEX, "rival(6, 0); rival(-1, 0)").due("many(2)", 6);
        edge("each with the FACTS 0 to 3").given("source(3, NONE)").given(6, "story()")
            .given("report(0, 0, 0, 1); report(0, 0, 3, 2); report(0, 1, 0, 3); report(0, 5, 0, 4); report(0, 5, 3, 5)")
            .due("ofFact(0, 0, 0)", 1).due("ofFact(0, 3, 0)", 2).due("ofFact(1, 0, 0)", 3).due("ofFact(5, 0, 0)", 4)
            .due("ofFact(5, 3, 0)", 5).dueEach("ofFact(0, 1, 0); ofFact(1, 3, 0); ofFact(4, 3, 0); ofFact(5, 2, 0)", -1)
            .refuses(INDEX, "report(0, 0, 4, 9); report(0, 0, -1, 9); report(0, 5, 4, 9); report(0, 1, -1, 9)");
    }

    private static void reports() {
        edge("A SOURCE REPORTS a VALUE (0 to 99) of a FACT").given("source(3, NONE); story()")
            .due("report(0, 0, 0, 0)", 3).due("ofFact(0, 0, 0)", 0)
            .due("report(0, 0, 0, 99)", 3).due("ofFact(0, 0, 0)", 99)
            .refuses(ARGUMENT, "report(0, 0, 0, -1); report(0, 0, 0, 100); report(0, 0, 1, -1); report(0, 0, 1, 100)");
        edge("in place of what it SAID ahead, until it RETRACTS that")
            .given("source(3, NONE); source(1, NONE); story()")
            .given("report(0, 0, 0, 5); report(1, 0, 0, 5); report(0, 0, 0, 6)")
            .due("proof(0, 0, 5, true)", 1).due("proof(0, 0, 6, true)", 3).due("ofFact(0, 0, 2)", 2)
            .due("retract(0, 0, 0)", 6).due("proof(0, 0, 6, true)", 0).due("proof(0, 0, 5, true)", 1)
            .due("ofFact(0, 0, 2)", 1).refuses(STATE, "retract(0, 0, 0)").due("report(0, 0, 0, 6)", 3)
            .due("ofFact(0, 0, 0)", 6);
    }

    private static void proofs() {
        edge("3, if one of them has the WEIGHT 3").given("source(2, NONE); source(3, 0); source(3, 1); story()")
            .due("proof(0, 0, 5, false)", 0).due("report(0, 0, 0, 5)", 0).due("report(1, 0, 0, 5)", 3)
            .due("report(2, 0, 0, 5)", 3).given("retract(1, 0, 0)").due("proof(0, 0, 5, false)", 3)
            .given("retract(2, 0, 0)").due("proof(0, 0, 5, false)", 0);
        edge("otherwise 2, if two of them have the WEIGHT 2, and are INDEPENDENT")
            .given("source(2, NONE); source(2, 0); source(1, NONE); source(2, 2); story()")
            .due("report(0, 0, 0, 5)", 0).due("report(1, 0, 0, 5)", 0).due("report(2, 0, 0, 5)", 0)
            .due("report(3, 0, 0, 5)", 2).given("retract(0, 0, 0); retract(2, 0, 0)").due("proof(0, 0, 5, false)", 2)
            .given("retract(1, 0, 0)").due("proof(0, 0, 5, false)", 0);
        edge("otherwise 1, if there are three or more ROOTS of theirs; otherwise 0")
            .given("source(1, NONE); source(1, NONE); source(1, NONE); source(1, 0); source(2, 1); source(1, NONE); story()")
            .due("proof(0, 0, 5, false)", 0).due("report(0, 0, 0, 5)", 0).due("report(3, 0, 0, 5)", 0)
            .due("report(1, 0, 0, 5)", 0).due("report(4, 0, 0, 5)", 0).due("report(2, 0, 0, 5)", 1)
            .due("report(5, 0, 0, 5)", 1).given("retract(0, 0, 0); retract(5, 0, 0)").due("proof(0, 0, 5, false)", 1)
            .given("retract(3, 0, 0)").due("proof(0, 0, 5, false)", 0);
    }

    private static void forces() {
        String sentence = "Its FORCE is the sum, over the ROOTS of those that SAY it, of the greatest WEIGHT of one of them"
            + " with that ROOT";
        Edge most = edge(sentence).given("story()").due("proof(0, 0, 5, true)", 0);
        for (int n = 0; n < 10; n++) {
            most.given("source(3, NONE); report(" + n + ", 0, 0, 5)").due("proof(0, 0, 5, true)", 3 * n + 3);
        }
        edge(sentence).given("source(1, NONE); source(2, 0); source(3, 0); source(1, NONE); source(1, 2); story()")
            .given("report(0, 0, 0, 5)").due("proof(0, 0, 5, true)", 1)
            .given("report(1, 0, 0, 5)").due("proof(0, 0, 5, true)", 2)
            .given("report(2, 0, 0, 5)").due("proof(0, 0, 5, true)", 3)
            .given("report(4, 0, 0, 5)").due("proof(0, 0, 5, true)", 3)
            .given("report(3, 0, 0, 5)").due("proof(0, 0, 5, true)", 4)
            .given("retract(2, 0, 0)").due("proof(0, 0, 5, true)", 3)
            .given("retract(1, 0, 0)").due("proof(0, 0, 5, true)", 2)
            .given("retract(0, 0, 0)").due("proof(0, 0, 5, true)", 2)
            .given("retract(4, 0, 0)").due("proof(0, 0, 5, true)", 1);
    }

    private static void truths() {
        String named = "source(2, NONE); source(2, NONE); source(1, NONE); source(1, NONE); source(1, NONE);"
            + "source(3, NONE); story()";
        edge("The TRUTH of a FACT is the VALUE with a PROOF above 0").given(named).due("ofFact(0, 0, 0)", -1)
            .given("report(0, 0, 0, 5); report(2, 0, 0, 5)").due("proof(0, 0, 5, true)", 3).due("ofFact(0, 0, 0)", -1)
            .given("report(3, 0, 0, 5)").due("proof(0, 0, 5, false)", 1).due("ofFact(0, 0, 0)", 5)
            .given("retract(3, 0, 0); report(5, 0, 0, 6)").due("ofFact(0, 0, 0)", 6);
        String greatest = "that has the greatest FORCE, of several the smallest VALUE; NONE without one";
        edge(greatest).given(named).given("report(5, 0, 0, 0); report(0, 0, 0, 99); report(1, 0, 0, 99)")
            .due("ofFact(0, 0, 0)", 99).given("report(2, 0, 0, 0)").due("proof(0, 0, 0, true)", 4)
            .due("proof(0, 0, 99, true)", 4).due("ofFact(0, 0, 0)", 0).given("report(3, 0, 0, 99)")
            .due("ofFact(0, 0, 0)", 99).given("report(4, 0, 0, 0)").due("ofFact(0, 0, 0)", 0);
        edge(greatest).given(named).due("ofFact(0, 0, 0)", -1).given("report(5, 0, 0, 99)").due("ofFact(0, 0, 0)", 99)
            .given("report(2, 0, 0, 0); report(3, 0, 0, 0)").due("ofFact(0, 0, 0)", 99)
            .given("report(4, 0, 0, 0)").due("ofFact(0, 0, 0)", 0).given("retract(4, 0, 0); retract(5, 0, 0)")
            .due("ofFact(0, 0, 0)", -1);
    }

    private static void heard() {
        String sentence = "What is HEARD of it is the TRUTH, or, without one, the VALUE with the greatest FORCE that is SAID"
            + " at all, of several the smallest; NONE without one";
        String house = "source(3, NONE); source(2, NONE); source(2, 1); source(1, NONE); source(1, NONE); source(2, NONE);"
            + "story()";
        edge(sentence).given(house).due("ofFact(0, 0, 1)", -1)
            .given("report(3, 0, 0, 99)").due("ofFact(0, 0, 1)", 99)
            .given("report(4, 0, 0, 98)").due("ofFact(0, 0, 1)", 98)
            .given("report(1, 0, 0, 99)").due("ofFact(0, 0, 1)", 99)
            .given("report(2, 0, 0, 98)").due("ofFact(0, 0, 1)", 98).due("ofFact(0, 0, 0)", -1)
            .given("report(5, 0, 0, 0)").due("ofFact(0, 0, 1)", 98).given("retract(4, 0, 0); retract(3, 0, 0)")
            .due("ofFact(0, 0, 1)", 0).given("retract(5, 0, 0); retract(1, 0, 0); retract(2, 0, 0)")
            .due("ofFact(0, 0, 1)", -1);
        edge(sentence).given(house).given("report(1, 0, 0, 5); report(3, 0, 0, 5); report(0, 0, 0, 6)")
            .due("proof(0, 0, 5, true)", 3).due("ofFact(0, 0, 1)", 6).given("retract(0, 0, 0)")
            .due("ofFact(0, 0, 1)", 5);
    }

    private static void takes() {
        Edge sixty = edge("TAKES: at most 60, numbered from 0").given(Houses.STORY).given("line(1, 0)")
            .refuses(INDEX, "ofTake(0, 0)");
        for (int n = 0; n < 60; n++) {
            sixty.due("many(4)", n).due("file(0, 0, 1, false, 0)", n);
        }
        sixty.given("report(0, 0, 0, 20)").due("many(4)", 60).due("says(59, 0)", 10).due("state(0, 59)", 1)
            .refuses(STATE, "file(0, 0, 1, false, 0); correct(0, 0); kill(0); correct(59, 0); kill(59)")
            .refuses(INDEX, "ofTake(60, 0); ofTake(-1, 0)");
        edge("of a KIND (0 FLASH, 1 KILL, 2 CORRECTION, 3 LEAD, 4 FEATURE)").given(Houses.STORY)
            .given("file(0, 0, 1, false, 0); file(0, 3, 1, false, 0); file(0, 4, 1, false, 0); report(0, 0, 0, 20)")
            .given("correct(0, 0); kill(0)").due("ofTake(0, 1)", 0).due("ofTake(1, 1)", 3).due("ofTake(2, 1)", 4)
            .due("ofTake(3, 1)", 2).due("ofTake(4, 1)", 1);
        edge("a HOLD: the minute ahead of which it is not sent").given(Houses.STORY).given("line(60, 0); line(1, 0)")
            .given("file(0, 0, 1, false, 3)").due("pass(2)", 0).due("state(0, 0)", 1).due("state(1, 0)", 1)
            .due("pass(1)", 1).due("state(0, 0)", 4).due("state(1, 0)", 2).due("ofLine(1, 5)", 1);
        edge("a HOLD: the minute ahead of which it is not sent").given(Houses.STORY).given("line(60, 0)")
            .given("file(0, 0, 1, false, 9999)").given(101, "pass(98)").due("pass(99)", 0).due("pass(1)", 0)
            .due("many(0)", 9998).due("state(0, 0)", 1).due("pass(1)", 1).due("state(0, 0)", 4);
    }

    private static void filed() {
        edge("not GUARDED, each has the TRUTH of now for its VALUE, and must have one").given(Houses.STORY)
            .leaves("file(0, 3, 8, false, 0)", -2).leaves("file(0, 4, 15, false, 0)", -2)
            .leaves("file(0, 0, 8, false, 0)", -2).due("file(0, 3, 7, false, 0)", 0).given("report(0, 0, 0, 20)")
            .due("says(0, 0)", 10).due("says(0, 1)", 11).due("says(0, 2)", 12).due("says(0, 3)", -1);
        edge("GUARDED, what is HEARD of it, and must have that")
            .given("source(1, NONE); source(3, NONE); story(); report(0, 0, 0, 5); report(1, 0, 1, 6)")
            .leaves("file(0, 3, 4, true, 0)", -2).leaves("file(0, 4, 7, true, 0)", -2)
            .leaves("file(0, 0, 8, true, 0)", -2)
            .due("file(0, 3, 3, true, 0)", 0).due("says(0, 0)", 5).due("says(0, 1)", 6)
            .given("report(1, 0, 0, 7)").due("file(0, 0, 1, true, 0)", 1).due("says(1, 0)", 7).due("says(0, 0)", 5);
        Edge flash = edge("A FLASH has one FACT").given(Houses.STORY).given("report(0, 0, 3, 13)");
        int filed = 0;
        for (int set = 1; set <= 15; set++) {
            String call = "file(0, 0, " + set + ", false, 0)";
            if (set == 1 || set == 2 || set == 4 || set == 8) {
                flash.due(call, filed);
                filed++;
            } else {
                flash.leaves(call, -3);
            }
        }
    }

    private static void words() {
        Edge flash = edge("WORDS: 8 of a FLASH").given(Houses.STORY);
        for (int fact = 0; fact < 4; fact++) {
            flash.given("file(0, 0, " + (1 << fact) + ", true, 0)").due("ofTake(" + fact + ", 3)", 8);
        }
        Edge lead = edge("20, and 15 for each FACT, of a LEAD").given(Houses.STORY);
        Edge feature = edge("60, and 30 for each, of a FEATURE").given(Houses.STORY);
        for (int set = 1; set <= 15; set++) {
            int many = set % 2 + set / 2 % 2 + set / 4 % 2 + set / 8;
            lead.given("file(0, 3, " + set + ", true, 0)").due("ofTake(" + (set - 1) + ", 3)", 20 + 15 * many);
            feature.given("file(0, 4, " + set + ", true, 0)").due("ofTake(" + (set - 1) + ", 3)", 60 + 30 * many);
        }
    }

    private static void corrected() {
        edge("To CORRECT a FACT of a TAKE that has it, and is not KILLED").given(Houses.STORY)
            .given("file(0, 3, 3, false, 0); file(0, 3, 3, false, 0); kill(1); report(0, 0, 0, 20); report(0, 0, 2, 20)")
            .refuses(ARGUMENT, "correct(0, 2); correct(0, 3); correct(0, -1); correct(0, 4); correct(2, 0)")
            .refuses(STATE, "correct(1, 0)").due("correct(0, 0)", 3).due("ofTake(3, 7)", 0);
        Edge made = edge("a CORRECTION (a TAKE with that FACT alone, its TRUTH of now, 15 WORDS, not GUARDED, a HOLD of 0)")
            .given(Houses.STORY).given("file(0, 4, 15, true, 9999); report(0, 0, 3, 20); pass(5)")
            .due("correct(0, 3)", 1)
            .given("report(0, 0, 3, 30)");
        int[] due = {0, 2, 8, 15, 0, 0, 0, 0, 5};
        for (int what = 0; what < due.length; what++) {
            made.due("ofTake(1, " + what + ")", due[what]);
        }
        made.due("says(1, 3)", 20).dueEach("says(1, 0); says(1, 1); says(1, 2)", -1);
    }

    private static void killed() {
        edge("To KILL a TAKE that is no KILL: it is KILLED").given(Houses.STORY)
            .given("file(0, 0, 1, false, 0); file(0, 4, 15, true, 0)").due("ofTake(0, 6)", 0).due("kill(0)", 0)
            .due("ofTake(0, 6)", 1).due("ofTake(1, 6)", 0).due("ofTake(2, 6)", 0).refuses(STATE, "kill(2); kill(0)")
            .due("kill(1)", 0).due("ofTake(1, 6)", 1);
        Edge made = edge("a KILL of it is filed (a TAKE of its STORY, without FACTS, of 5 WORDS, not GUARDED, a HOLD of 0)")
            .given("source(3, NONE); story(); story(); report(0, 1, 0, 5); report(0, 1, 3, 0)")
            .given("file(1, 4, 9, true, 9999); pass(4)").due("kill(0)", 0);
        int[] due = {1, 1, 0, 5, 0, 0, 0, 0, 4};
        for (int what = 0; what < due.length; what++) {
            made.due("ofTake(1, " + what + ")", due[what]);
        }
        made.dueEach("says(1, 0); says(1, 1); says(1, 2); says(1, 3)", -1);
        edge("The KILL runs on those LINES alone where that TAKE was SENT; on others that one does not run any more")
            .given(Houses.STORY)
            .given("line(8, 0); line(7, 0); line(60, 9); file(0, 0, 1, false, 0); line(60, 0); pass(1)")
            .due("state(0, 0)", 4).due("state(1, 0)", 2).due("state(2, 0)", 3).due("state(3, 0)", 0).due("kill(0)", 2)
            .due("state(0, 1)", 1).due("state(1, 1)", 0).due("state(2, 1)", 1).due("state(3, 1)", 0)
            .due("state(0, 0)", 4).due("state(1, 0)", 0).due("state(2, 0)", 3).due("state(3, 0)", 0)
            .due("pass(20)", 2).due("state(0, 0)", 5).due("state(2, 0)", 5).due("ofLine(1, 5)", 7)
            .due("ofLine(3, 5)", 0).due("state(1, 0)", 0);
    }

    private static void lines() {
        Edge four = edge("LINES: at most 4, numbered from 0").refuses(INDEX, "ofLine(0, 0)");
        for (int n = 0; n < 4; n++) {
            four.due("many(3)", n).due("line(" + (n + 7) + ", 0)", n).due("ofLine(" + n + ", 0)", n + 7);
        }
        four.refuses(STATE, "line(1, 0)").refuses(INDEX, "ofLine(4, 0); ofLine(-1, 0)").due("many(3)", 4);
        edge("each with a SPEED (1 to 60 WORDS a minute)").given(Houses.STORY)
            .refuses(ARGUMENT, "line(0, 0); line(61, 0)").given("line(1, 0); line(60, 0); file(0, 4, 15, true, 0)")
            .due("pass(1)", 0).due("ofLine(0, 5)", 1).due("ofLine(1, 5)", 60).due("pass(1)", 0)
            .due("ofLine(0, 5)", 2).due("ofLine(1, 5)", 120).due("pass(1)", 1).due("ofLine(1, 5)", 180);
        edge("a LAG (0 to 9 minutes, for a desk that translates)").given(Houses.STORY)
            .refuses(ARGUMENT, "line(1, -1); line(1, 10)").given("line(60, 0); line(60, 9); file(0, 0, 1, false, 0)")
            .due("pass(1)", 2).due("state(0, 0)", 4).due("state(1, 0)", 3).due("pass(8)", 0).due("state(1, 0)", 3)
            .due("pass(1)", 0).due("state(1, 0)", 4);
        edge("and DOWN for so many minutes (0)").given(Houses.STORY).given("line(60, 0); file(0, 0, 1, false, 0)")
            .due("ofLine(0, 2)", 0).due("pass(1)", 1).due("ofLine(0, 2)", 0);
        edge("A TAKE runs on all LINES that there are as it is filed").given(Houses.STORY)
            .given("file(0, 0, 1, false, 0); line(60, 0)").due("state(0, 0)", 0).due("pass(1)", 0)
            .given("file(0, 0, 1, false, 0); line(60, 0)").due("state(0, 1)", 1).due("state(1, 1)", 0).due("pass(1)", 1)
            .given("line(60, 0); line(60, 0); file(0, 0, 1, false, 0)")
            .dueEach("state(0, 2); state(1, 2); state(2, 2); state(3, 2)", 1)
            .given("report(0, 0, 0, 20); correct(2, 0)")
            .dueEach("state(0, 3); state(1, 3); state(2, 3); state(3, 3)", 1).due("pass(1)", 8);
    }

    private static void minutes() {
        edge("A MINUTE: NOW is 1 more").due("many(0)", 0).due("pass(1)", 0).due("many(0)", 1)
            .due("pass(99)", 0).due("many(0)", 100);
        edge("one that is DOWN is so for 1 minute less").given(Houses.STORY)
            .given("line(60, 0); line(60, 0); line(60, 0); down(1, 1); down(2, 99); file(0, 0, 1, false, 0)")
            .due("pass(1)", 1).due("state(0, 0)", 4).due("ofLine(0, 2)", 0).due("state(1, 0)", 1).due("ofLine(1, 2)", 0)
            .due("state(2, 0)", 1).due("ofLine(2, 2)", 98).due("pass(1)", 1).due("state(1, 0)", 4)
            .due("ofLine(1, 2)", 0)
            .due("pass(97)", 0).due("state(2, 0)", 1).due("ofLine(2, 2)", 0).due("pass(1)", 1).due("state(2, 0)", 4)
            .due("ofLine(2, 2)", 0);
        edge("Another one sends as many WORDS as its SPEED, one behind the other").given(Houses.STORY)
            .given("line(7, 0); line(8, 0); line(9, 0); line(16, 0); file(0, 0, 1, false, 0); file(0, 0, 2, false, 0)")
            .due("pass(1)", 4).due("state(0, 0)", 2).due("state(0, 1)", 1).due("state(1, 0)", 4).due("state(1, 1)", 1)
            .due("state(2, 0)", 4).due("state(2, 1)", 2).due("state(3, 0)", 4).due("state(3, 1)", 4)
            .due("ofLine(0, 5)", 7).due("ofLine(1, 5)", 8).due("ofLine(2, 5)", 9).due("ofLine(3, 5)", 16)
            .due("pass(1)", 3).due("state(0, 0)", 4).due("state(0, 1)", 2).due("ofLine(0, 5)", 14)
            .dueEach("ofLine(1, 5); ofLine(2, 5); ofLine(3, 5)", 16).due("pass(1)", 1)
            .dueEach("ofLine(0, 5); ofLine(1, 5); ofLine(2, 5); ofLine(3, 5)", 16).due("pass(1)", 0);
        String always = "always of that TAKE that runs there, was not SENT, and has a HOLD of NOW or less";
        edge(always).given(Houses.STORY)
            .given("line(60, 0); file(0, 0, 1, false, 1); file(0, 0, 2, false, 2); file(0, 3, 4, false, 0)")
            .due("pass(1)", 2).due("state(0, 0)", 4).due("state(0, 1)", 1).due("state(0, 2)", 4)
            .due("pass(1)", 1).due("state(0, 1)", 4).due("pass(1)", 0).due("ofLine(0, 5)", 8 + 8 + 35);
        edge(always).given(Houses.STORY).given("file(0, 0, 1, false, 0); line(60, 0); file(0, 0, 1, false, 0); kill(1)")
            .given("file(0, 3, 1, false, 0)").due("pass(1)", 1).due("state(0, 3)", 4).due("ofLine(0, 5)", 35)
            .due("pass(99)", 0).due("ofLine(0, 5)", 35);
    }

    private static void urgency() {
        edge("whose KIND is the smallest number, of several the smallest number of a TAKE").given(Houses.STORY)
            .given("line(8, 0); file(0, 4, 1, false, 0); file(0, 3, 1, false, 0); file(0, 3, 2, false, 0)")
            .given("report(0, 0, 0, 20); correct(0, 0); file(0, 0, 1, false, 0); file(0, 0, 2, false, 0)")
            .due("pass(1)", 1).due("state(0, 4)", 4).due("state(0, 5)", 1).due("pass(1)", 1).due("state(0, 5)", 4)
            .due("state(0, 3)", 1).due("kill(4)", 1).due("pass(1)", 1).due("state(0, 6)", 4).due("state(0, 3)", 2)
            .due("state(0, 1)", 1).due("pass(2)", 1).due("state(0, 3)", 4).due("state(0, 1)", 2).due("state(0, 2)", 1)
            .due("pass(4)", 1).due("state(0, 1)", 4).due("state(0, 2)", 2).due("state(0, 0)", 1)
            .due("pass(5)", 1).due("state(0, 2)", 4).due("state(0, 0)", 2).due("ofLine(0, 4)", 90 - 6);
        edge("(What is not yet all gone, and is passed by one that is more urgent, goes on later.)").given(Houses.STORY)
            .given("line(10, 0); file(0, 4, 1, false, 0); pass(1); file(0, 0, 1, false, 0)").due("state(0, 0)", 2)
            .due("pass(1)", 1).due("state(0, 1)", 4).due("state(0, 0)", 2).due("ofLine(0, 4)", 90 - 10 - 2)
            .due("pass(7)", 0).due("state(0, 0)", 2).due("pass(1)", 1).due("state(0, 0)", 4).due("ofLine(0, 5)", 98);
    }

    private static void sent() {
        edge("As all WORDS of one are gone, it is SENT there, at NOW").given(Houses.STORY)
            .given("line(8, 0); line(7, 0); file(0, 0, 1, false, 0)").due("pass(1)", 1).due("state(0, 0)", 4)
            .due("state(1, 0)", 2).dueExactly("meanDelay()", 1.0).due("pass(1)", 1).due("state(1, 0)", 4)
            .dueExactly("meanDelay()", 1.5);
        edge("The desk of a LINE HAS a TAKE that was SENT at a minute from that and LAG on").given(Houses.STORY)
            .given("line(60, 2); file(0, 0, 1, false, 0); pass(1)").due("state(0, 0)", 3).due("tells(0, 0, 0)", -1)
            .given("pass(1)").due("state(0, 0)", 3).due("tells(0, 0, 0)", -1).due("ofFact(0, 0, 5)", -1)
            .given("pass(1)").due("state(0, 0)", 4).due("tells(0, 0, 0)", 10).due("ofFact(0, 0, 5)", 3)
            .given(90, "pass(99)").due("state(0, 0)", 4).due("tells(0, 0, 0)", 10);
        edge("It DROPPED one, if it HAS a KILL of it").given(Houses.STORY)
            .given("line(60, 2); file(0, 0, 1, false, 0); pass(3)").due("kill(0)", 1).due("state(0, 0)", 4)
            .given("pass(1)").due("state(0, 1)", 3).due("state(0, 0)", 4)
            .given("pass(1)").due("state(0, 1)", 3).due("state(0, 0)", 4).due("tells(0, 0, 0)", 10)
            .given("pass(1)").due("state(0, 1)", 4).due("state(0, 0)", 5).due("tells(0, 0, 0)", -1);
    }

    private static void desks() {
        edge("What it TELLS of a FACT of a STORY is the VALUE in the TAKE with the greatest number that it HAS, did not DROP,"
            + " and that has this FACT; NONE without one").given(Houses.STORY)
            .given("line(60, 0); file(0, 3, 3, false, 3); report(0, 0, 0, 20); file(0, 0, 1, false, 0)")
            .dueEach("tells(0, 0, 0); tells(0, 0, 1)", -1).given("pass(1)").due("tells(0, 0, 0)", 20)
            .due("tells(0, 0, 1)", -1).given("pass(2)").due("tells(0, 0, 0)", 20).due("tells(0, 0, 1)", 11)
            .given("kill(1)").due("tells(0, 0, 0)", 20).given("pass(1)").due("tells(0, 0, 0)", 10)
            .due("tells(0, 0, 1)", 11).given("kill(0); pass(1)").dueEach("tells(0, 0, 0); tells(0, 0, 1)", -1);
    }

    private static void wrong() {
        edge("That is WRONG, if it is not NONE, and the FACT has a TRUTH, and another one").given(Houses.STORY)
            .given("line(60, 0); file(0, 0, 1, false, 0); report(0, 0, 0, 20)").due("ofLine(0, 7)", 0)
            .given("pass(1)").due("ofLine(0, 7)", 1).given("report(0, 0, 0, 10)").due("ofLine(0, 7)", 0)
            .given("retract(0, 0, 0)").due("ofLine(0, 7)", 0).given("report(1, 0, 0, 99)").due("ofLine(0, 7)", 0)
            .given("report(0, 0, 0, 9)").due("ofLine(0, 7)", 1).given("report(0, 0, 0, 11)").due("ofLine(0, 7)", 1);
    }

    private static void rivals() {
        edge("RIVALS tell a FACT at a minute (the first time counts)").given("story()").due("ofFact(0, 0, 4)", -1)
            .due("rival(0, 0)", true).due("ofFact(0, 0, 4)", 0).given("pass(1)").due("rival(0, 0)", false)
            .due("rival(0, 3)", true).given("pass(1)").due("rival(0, 3)", false).due("ofFact(0, 0, 4)", 0)
            .due("ofFact(0, 3, 4)", 1);
        edge("if a desk HAD a TAKE with it (any VALUE) at a minute that is ahead of that").given(Houses.STORY)
            .given("line(60, 0); file(0, 3, 7, false, 0); pass(1); rival(0, 0); pass(1); rival(0, 1); pass(1)")
            .given("rival(0, 2)").dueEach("ofFact(0, 0, 5); ofFact(0, 1, 5); ofFact(0, 2, 5)", 2)
            .due("ofFact(0, 0, 6)", 0)
            .due("ofFact(0, 1, 6)", 0).due("ofFact(0, 2, 6)", 1).given("report(0, 0, 2, 99)").due("ofFact(0, 2, 6)", 1);
        edge("or at all, if no RIVAL told it by now").given(Houses.STORY).given("line(60, 1); file(0, 0, 1, false, 0)")
            .due("ofFact(0, 0, 6)", 0).given("pass(1)").due("ofFact(0, 0, 6)", 0).given("pass(1)")
            .due("ofFact(0, 0, 6)", 1).given("rival(0, 0)").due("ofFact(0, 0, 6)", 0);
        edge("the first such minute counts, also if it was DROPPED later").given(Houses.STORY)
            .given("line(60, 9); line(60, 0); file(0, 0, 1, false, 0); pass(1); kill(0); pass(1); rival(0, 0)")
            .due("state(1, 0)", 5).due("ofFact(0, 0, 5)", 1).due("ofFact(0, 0, 6)", 1)
            .given("file(0, 0, 1, false, 0); pass(20)").due("ofFact(0, 0, 5)", 1).due("ofFact(0, 0, 6)", 1);
    }

    private static void exceptions() {
        String nothing = "A method that throws an exception changes nothing";
        edge(nothing).given(Houses.BUSY)
            .refuses(INDEX, "source(1, 4); report(4, 0, 0, 5); report(0, 2, 0, 5); report(0, 0, 4, 5); retract(4, 0, 0);"
                + "retract(0, 2, 0); retract(0, 0, 4); rival(2, 0); rival(0, 4); down(2, 1); file(2, 0, 1, false, 0);"
                + "correct(5, 0); kill(5); areIndependent(4, 0); areIndependent(0, 4); ofFact(2, 0, 0); ofFact(0, 4, 0);"
                + "proof(2, 0, 0, true); proof(0, 4, 0, true); ofTake(5, 0); says(5, 0); says(0, 4); state(2, 0);"
                + "state(0, 5); tells(2, 0, 0); tells(0, 2, 0); tells(0, 0, 4); ofLine(2, 0); arrives(2, 0);"
                + "arrives(0, 5); wouldArrive(2, 0, 1); needs(2, 0, 0, 1); needs(0, 4, 0, 1); lead(2, 0)")
            .refuses(ARGUMENT, "source(0, NONE); line(0, 0); line(1, 10); report(0, 0, 0, 100); down(0, 100);"
                + "file(0, 1, 1, false, 0); file(0, 0, 0, false, 0); file(0, 0, 1, false, -1); correct(0, 2); pass(0);"
                + "pass(100); ofFact(0, 0, 7); proof(0, 0, 100, true); ofTake(0, 9); ofLine(0, 8); many(11);"
                + "wouldArrive(0, 5, 1); wouldArrive(0, 0, 0); needs(0, 0, 100, 1); needs(0, 0, 0, 4); lead(0, 100)")
            .refuses(STATE, "retract(1, 0, 0); correct(1, 2); kill(1); kill(3)");
        edge(nothing).given(Houses.FULL)
            .refuses(STATE, "source(1, NONE); story(); line(1, 0); file(0, 0, 1, false, 0); correct(0, 0); kill(0)");
        edge(nothing).given(Houses.BUSY).given(100, "pass(99)").given("file(0, 3, 3, false, 9999)")
            .refuses(STATE, "pass(99)");
    }

    private static void exceptionsOfTakes() {
        String first = "If several exceptions apply, the one that is named first is thrown";
        edge(first).given(Houses.FULL)
            .refuses(INDEX, "source(0, 10); source(4, -2); source(1, 10); report(10, 0, 0, 100); report(-1, 0, 0, -1);"
                + "report(0, 6, 0, 100); report(0, -1, 0, -1); report(0, 0, 4, 100); report(0, 0, -1, -1); down(4, 100);"
                + "down(-1, -1); file(6, 1, 1, false, 0); file(6, 0, 0, false, 0); file(6, 0, 16, false, 0);"
                + "file(6, 0, 1, false, -1); file(-1, 0, 1, false, 10000); file(6, 0, 1, false, 0); correct(60, 4);"
                + "correct(-1, -1); correct(60, 0); kill(60); ofFact(6, 0, 7); ofFact(-1, 0, -1); ofFact(0, 4, 7);"
                + "ofFact(0, -1, -1); proof(6, 0, 100, true); proof(-1, 0, -1, true); proof(0, 4, 100, true);"
                + "proof(0, -1, -1, true); ofTake(60, 9); ofTake(-1, -1); ofLine(4, 8); ofLine(-1, -1)")
            .refuses(INDEX, "wouldArrive(4, 5, 1); wouldArrive(-1, -1, 1); wouldArrive(4, 0, 0); wouldArrive(4, 0, 201);"
                + "needs(6, 0, 100, 1); needs(-1, 0, -1, 1); needs(6, 0, 0, 0); needs(6, 0, 0, 4); needs(0, 4, 100, 1);"
                + "needs(0, -1, -1, 1); needs(0, 4, 0, 0); needs(0, -1, 0, 4); lead(6, 100); lead(-1, -1)")
            .refuses(ARGUMENT, "source(0, NONE); source(4, 9); line(0, 0); line(61, 0); line(1, -1); line(1, 10);"
                + "file(0, 1, 1, false, 0); file(0, 0, 0, false, 0); file(0, 0, 16, false, 0); file(0, 0, 1, false, -1);"
                + "file(0, 0, 1, false, 10000); correct(1, 4); correct(1, -1); correct(0, 4); correct(6, 1)");
        edge(first).given(Houses.STORY).given("file(0, 0, 1, false, 0); kill(0)")
            .refuses(ARGUMENT, "correct(0, 1); correct(0, 4); correct(0, -1)")
            .refuses(INDEX, "retract(2, 0, 0); retract(-1, 0, 0); retract(1, 1, 0); retract(1, -1, 0); retract(1, 0, 4)")
            .refuses(INDEX, "retract(1, 0, -1)");
        edge(first).given(101, "pass(99)").refuses(ARGUMENT, "pass(0); pass(100)");
        String ahead = "An exception goes ahead of -2 and -3";
        edge(ahead).given(Houses.STORY).given("file(0, 0, 1, false, 0); kill(0); retract(0, 0, 0)")
            .leaves("file(0, 3, 8, false, 0)", -2).leaves("file(0, 0, 6, false, 0)", -3)
            .refuses(INDEX, "file(1, 3, 8, false, 0); file(1, 0, 6, false, 0); file(-1, 0, 6, false, 0)")
            .refuses(ARGUMENT, "file(0, 3, 8, false, -1); file(0, 1, 8, false, 0); file(0, 0, 6, false, 10000)")
            .refuses(STATE, "correct(0, 0)").refuses(ARGUMENT, "correct(0, 1)");
        edge(ahead).given(Houses.FULL).given("retract(0, 2, 0)")
            .refuses(STATE, "file(2, 3, 1, false, 0); file(1, 0, 3, false, 0); correct(2, 0); correct(3, 0)");
    }

    private static void wouldBe() {
        String sentence = "what would be (nothing is changed; NOW has no bound in it; also with 60 TAKES)";
        edge(sentence).given(Houses.BUSY)
            .leaves("arrives(0, 0)", 9 + 3).leaves("arrives(0, 1)", 2).leaves("arrives(0, 2)", 2 + 3)
            .leaves("arrives(0, 3)", 3).leaves("arrives(0, 4)", 17 + 12 + 3).leaves("arrives(1, 0)", 0)
            .leaves("arrives(1, 1)", 0).leaves("arrives(1, 4)", 17 + 1).leaves("wouldArrive(0, 0, 7)", 1 + 3)
            .leaves("wouldArrive(0, 3, 50)", 16 + 3).leaves("wouldArrive(1, 4, 200)", 5 + 4)
            .leaves("needs(0, 0, 40, 1)", 0).leaves("needs(0, 0, 41, 3)", 2).leaves("needs(0, 0, 39, 3)", 1)
            .leaves("lead(0, 35)", 1).leaves("lead(0, 50)", 3);
        edge(sentence).given(Houses.STORY).given("line(1, 9)").given(101, "pass(99)")
            .given("file(0, 4, 1, false, 9999)")
            .leaves("arrives(0, 0)", 90 + 9).leaves("wouldArrive(0, 0, 8)", 8 + 9).leaves("wouldArrive(0, 4, 1)", -1)
            .refuses(STATE, "pass(1)");
        edge(sentence).given(Houses.FULL)
            .leaves("wouldArrive(0, 0, 8)", 8).leaves("wouldArrive(0, 0, 4)", 7).leaves("wouldArrive(0, 1, 59)", 8)
            .leaves("wouldArrive(0, 2, 44)", 8).leaves("wouldArrive(0, 2, 45)", 9).leaves("wouldArrive(0, 4, 200)", 11)
            .leaves("arrives(0, 59)", 7).refuses(STATE, "file(0, 0, 1, false, 0)");
    }
}
