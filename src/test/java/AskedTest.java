/** Promises 13 to 22: what is asked. */
public final class AskedTest {

    private AskedTest() {
    }

    public static void main(String[] args) {
        areIndependent();
        truthAndHeard();
        saidCounts();
        first();
        firstAtAll();
        ofFactRefused();
        proof();
        proofRefused();
        ofTakeAndSaysRefused();
        state();
        stateRefused();
        tells();
        tellsRefused();
        ofLine();
        ofLineRefused();
        many();
        meanDelay();
        fullHouse();
        Check.end();
    }

    /** Sources 0, 1, 2 unnamed, 3, 4 named, 5 official, 6 unnamed of 0, 7 named of 0; two stories. */
    private static Slugwire house() {
        Slugwire x = new Slugwire();
        int[] weights = {1, 1, 1, 2, 2, 3};
        for (int weight : weights) {
            x.source(weight, -1);
        }
        x.source(1, 0);
        x.source(2, 0);
        x.story();
        x.story();
        return x;
    }

    /** Promise 13. */
    private static void areIndependent() {
        Slugwire x = house();
        Check.due("two of none", x.areIndependent(0, 1), true);
        Check.due("one and itself", x.areIndependent(3, 3), false);
        Check.due("one of another", x.areIndependent(0, 6), false);
        Check.due("the other way round", x.areIndependent(6, 0), false);
        Check.due("two of the same", x.areIndependent(6, 7), false);
        Check.due("one of another, and a third", x.areIndependent(6, 1), true);
        for (int wrong : new int[] {-1, 8, Integer.MAX_VALUE, Integer.MIN_VALUE}) {
            Check.refusesIndex("one " + wrong, x, () -> x.areIndependent(wrong, 0));
            Check.refusesIndex("other " + wrong, x, () -> x.areIndependent(0, wrong));
        }
    }

    /** Promise 14, 0 and 1: the greatest force, of several the smallest value, ahead those with a proof. */
    private static void truthAndHeard() {
        Slugwire x = house();
        Check.due("nothing is said", x.ofFact(0, 0, 1), -1);
        x.report(3, 0, 0, 60);
        Check.due("a force of 2 without proof is no truth", x.ofFact(0, 0, 0), -1);
        Check.due("but heard", x.ofFact(0, 0, 1), 60);
        x.report(1, 0, 0, 59);
        Check.due("the greater force is heard, not the smaller value", x.ofFact(0, 0, 1), 60);
        x.report(2, 0, 0, 59);
        Check.due("of two with the same force the smaller value", x.ofFact(0, 0, 1), 59);
        x.report(7, 0, 0, 60);
        Check.due("two independent named ones", x.ofFact(0, 0, 0), 60);
        x.report(5, 0, 0, 70);
        Check.due("a force of 4 goes ahead of a proof of 3", x.ofFact(0, 0, 0), 60);
        x.report(4, 0, 0, 70);
        Check.due("now the other has 5", x.ofFact(0, 0, 0), 70);
        x.report(6, 0, 0, 60);
        Check.due("another one with the same root is no more force", x.ofFact(0, 0, 0), 70);
        x.report(1, 0, 0, 60);
        Check.due("of two truths with the same force the smaller value", x.ofFact(0, 0, 0), 60);
        Check.due("what is heard is the truth", x.ofFact(0, 0, 1), 60);
        x.report(1, 0, 1, 33);
        x.report(2, 0, 1, 33);
        x.report(5, 0, 1, 44);
        x.report(3, 0, 1, 33);
        Check.due("three roots with a force of 4", x.ofFact(0, 1, 0), 33);
        x.retract(5, 0, 1);
        Check.due("three roots alone", x.ofFact(0, 1, 0), 33);
        x.retract(2, 0, 1);
        Check.due("two roots", x.ofFact(0, 1, 0), -1);
        Slugwire y = house();
        y.report(5, 0, 0, 9);
        y.report(3, 0, 0, 8);
        y.report(0, 0, 0, 8);
        Check.due("a proof goes ahead of the same force without", y.ofFact(0, 0, 0), 9);
        Check.due("and is what is heard", y.ofFact(0, 0, 1), 9);
        y.report(7, 0, 0, 8);
        Check.due("now two named ones have more", y.ofFact(0, 0, 1), 8);
    }

    /** Promise 14, 2 and 3. */
    private static void saidCounts() {
        Slugwire x = house();
        int[] values = {0, 5, 5, 0, 99};
        for (int s = 0; s < values.length; s++) {
            x.report(s, 1, 2, values[s]);
        }
        Check.due("five sources", x.ofFact(1, 2, 2), 5);
        Check.due("three values", x.ofFact(1, 2, 3), 3);
        x.retract(4, 1, 2);
        x.retract(0, 1, 2);
        Check.due("three sources", x.ofFact(1, 2, 2), 3);
        Check.due("two values", x.ofFact(1, 2, 3), 2);
        Check.due("none of another fact", x.ofFact(1, 3, 2) + x.ofFact(1, 3, 3), 0);
        Check.due("none of another story", x.ofFact(0, 2, 2) + x.ofFact(0, 2, 3), 0);
    }

    /** Promise 14, 4 to 6: ahead of a rival, not with it. */
    private static void first() {
        Slugwire x = house();
        x.line(60, 2);
        x.line(60, 4);
        x.report(5, 0, 0, 1);
        x.report(5, 0, 1, 1);
        x.file(0, 3, 3, false, 0);
        x.pass(2);
        Check.due("sent, but no desk has it yet", x.ofFact(0, 0, 5), -1);
        Check.due("so we are not first, without any rival", x.ofFact(0, 0, 6), 0);
        x.pass(1);
        Check.due("the desk has it from 3 on", x.ofFact(0, 0, 5), 3);
        Check.due("without a rival", x.ofFact(0, 0, 4), -1);
        Check.due("we are first", x.ofFact(0, 0, 6), 1);
        x.rival(0, 0);
        Check.due("with a rival at the same minute we are not", x.ofFact(0, 0, 6), 0);
        x.pass(1);
        x.rival(0, 1);
        Check.due("a rival a minute later", x.ofFact(0, 1, 4), 4);
        Check.due("and we are first", x.ofFact(0, 1, 6), 1);
        x.pass(9);
        Check.due("the slower desk changes nothing", x.ofFact(0, 1, 5), 3);
        Check.due("a fact that is in no take", x.ofFact(0, 2, 5), -1);
        Check.due("a fact of another story", x.ofFact(1, 0, 5), -1);
        Check.due("which we are not first with", x.ofFact(1, 0, 6), 0);
        x.rival(1, 0);
        Check.due("nor with a rival", x.ofFact(1, 0, 6), 0);
    }

    /** Promise 14, 5 and 6: any value, of a guarded take too, and also if it was dropped later. */
    private static void firstAtAll() {
        Slugwire x = house();
        x.line(60, 0);
        x.report(0, 0, 3, 50);
        x.pass(5);
        x.file(0, 0, 8, true, 0);
        x.pass(1);
        x.kill(0);
        x.pass(1);
        Check.due("it was dropped", x.state(0, 0), 5);
        Check.due("the first minute still counts", x.ofFact(0, 3, 5), 6);
        x.rival(0, 3);
        Check.due("we are first", x.ofFact(0, 3, 6), 1);
        x.report(0, 0, 3, 51);
        x.file(0, 0, 8, true, 0);
        x.pass(9);
        Check.due("a later take changes nothing", x.ofFact(0, 3, 5), 6);
        x.report(5, 1, 0, 1);
        x.file(1, 4, 1, false, 0);
        x.pass(1);
        x.kill(x.many(4) - 1);
        x.pass(9);
        Check.due("a take that was killed on its way was never there", x.ofFact(1, 0, 5), -1);
    }

    private static void ofFactRefused() {
        Slugwire x = house();
        Check.refusesIndex("story 2", x, () -> x.ofFact(2, 0, 0));
        Check.refusesIndex("story -1", x, () -> x.ofFact(-1, 0, 0));
        Check.refusesIndex("fact 4", x, () -> x.ofFact(0, 4, 0));
        Check.refusesIndex("fact -1", x, () -> x.ofFact(1, -1, 0));
        Check.refusesArgument("what 7", x, () -> x.ofFact(0, 0, 7));
        Check.refusesArgument("what -1", x, () -> x.ofFact(0, 0, -1));
        Check.refusesIndex("story 2 goes ahead of what 7", x, () -> x.ofFact(2, 0, 7));
        Check.refusesIndex("fact 4 goes ahead of what 7", x, () -> x.ofFact(0, 4, 7));
    }

    /** Promise 15: the force is the sum of the greatest weight of each root. */
    private static void proof() {
        Slugwire x = house();
        Check.due("none says it", x.proof(0, 0, 0, true) + x.proof(0, 0, 0, false), 0);
        x.report(0, 0, 0, 0);
        Check.due("one unnamed", x.proof(0, 0, 0, true), 1);
        x.report(6, 0, 0, 0);
        Check.due("another of the same root", x.proof(0, 0, 0, true), 1);
        x.report(7, 0, 0, 0);
        Check.due("a named one of the same root", x.proof(0, 0, 0, true), 2);
        x.report(1, 0, 0, 0);
        Check.due("two roots", x.proof(0, 0, 0, true), 3);
        Check.due("are no proof", x.proof(0, 0, 0, false), 0);
        x.report(3, 0, 0, 0);
        Check.due("two named", x.proof(0, 0, 0, false), 2);
        x.report(5, 0, 0, 0);
        Check.due("an official one", x.proof(0, 0, 0, false), 3);
        Check.due("the force of all", x.proof(0, 0, 0, true), 2 + 1 + 2 + 3);
        x.report(3, 0, 0, 99);
        x.report(5, 0, 0, 99);
        Check.due("those that are left", x.proof(0, 0, 0, true), 3);
        Check.due("another value", x.proof(0, 0, 99, true) * 10 + x.proof(0, 0, 99, false), 53);
        Check.due("another fact", x.proof(0, 1, 0, true), 0);
        Check.due("another story", x.proof(1, 0, 0, true), 0);
    }

    private static void proofRefused() {
        Slugwire x = house();
        Check.refusesIndex("story 2", x, () -> x.proof(2, 0, 0, true));
        Check.refusesIndex("story -1", x, () -> x.proof(-1, 0, 0, false));
        Check.refusesIndex("fact 4", x, () -> x.proof(0, 4, 0, true));
        Check.refusesIndex("fact -1", x, () -> x.proof(1, -1, 0, false));
        Check.refusesArgument("value 100", x, () -> x.proof(0, 0, 100, true));
        Check.refusesArgument("value -1, which is what is not said", x, () -> x.proof(0, 0, -1, false));
        Check.refusesIndex("fact 4 goes ahead of value 100", x, () -> x.proof(0, 4, 100, false));
    }

    /** Promises 16 and 17; what they answer is tested where takes are filed. */
    private static void ofTakeAndSaysRefused() {
        Slugwire x = house();
        x.report(5, 0, 3, 0);
        x.file(0, 0, 8, false, 0);
        Check.due("ofTake(0, 2)", x.ofTake(0, 2), 8);
        Check.due("says(0, 3)", x.says(0, 3), 0);
        Check.due("says(0, 0), which it has not", x.says(0, 0), -1);
        for (int wrong : new int[] {-1, 1, 60, Integer.MAX_VALUE, Integer.MIN_VALUE}) {
            Check.refusesIndex("ofTake(" + wrong + ", 0)", x, () -> x.ofTake(wrong, 0));
            Check.refusesIndex("ofTake(" + wrong + ", 9)", x, () -> x.ofTake(wrong, 9));
            Check.refusesIndex("says(" + wrong + ", 0)", x, () -> x.says(wrong, 0));
        }
        Check.refusesArgument("ofTake(0, 9)", x, () -> x.ofTake(0, 9));
        Check.refusesArgument("ofTake(0, -1)", x, () -> x.ofTake(0, -1));
        Check.refusesIndex("says(0, 4)", x, () -> x.says(0, 4));
        Check.refusesIndex("says(0, -1)", x, () -> x.says(0, -1));
    }

    /** Promise 18. */
    private static void state() {
        Slugwire x = house();
        x.line(4, 2);
        x.report(5, 0, 0, 1);
        x.file(0, 0, 1, false, 0);
        x.line(60, 0);
        Check.due("it does not run on a line that is told later", x.state(1, 0), 0);
        Check.due("nothing is gone", x.state(0, 0), 1);
        x.pass(1);
        Check.due("some words are gone", x.state(0, 0), 2);
        x.pass(1);
        Check.due("sent, and on its way", x.state(0, 0), 3);
        x.pass(1);
        Check.due("still on its way", x.state(0, 0), 3);
        x.pass(1);
        Check.due("the desk has it", x.state(0, 0), 4);
        x.kill(0);
        Check.due("killed, but not dropped yet", x.state(0, 0), 4);
        x.pass(3);
        Check.due("the kill is on its way", x.state(0, 1) * 10 + x.state(0, 0), 34);
        x.pass(1);
        Check.due("dropped; the kill itself is there", x.state(0, 1) * 10 + x.state(0, 0), 45);
        x.file(0, 0, 1, false, 0);
        x.kill(2);
        Check.due("killed ahead of being sent", x.state(0, 2) + x.state(1, 2) + x.state(0, 3) + x.state(1, 3), 0);
    }

    private static void stateRefused() {
        Slugwire x = house();
        x.line(4, 2);
        x.report(5, 0, 0, 1);
        x.file(0, 0, 1, false, 0);
        for (int wrong : new int[] {-1, 1, 60, Integer.MAX_VALUE, Integer.MIN_VALUE}) {
            Check.refusesIndex("state(" + wrong + ", 0)", x, () -> x.state(wrong, 0));
            Check.refusesIndex("state(0, " + wrong + ")", x, () -> x.state(0, wrong));
        }
    }

    /** Promise 19: the greatest number that the desk has and did not drop. */
    private static void tells() {
        Slugwire x = house();
        x.line(60, 0);
        x.line(60, 3);
        x.report(5, 0, 0, 10);
        x.report(5, 0, 1, 11);
        x.report(5, 1, 0, 88);
        x.file(0, 4, 3, false, 0);
        x.report(5, 0, 0, 20);
        x.file(0, 0, 1, false, 0);
        x.file(1, 0, 1, false, 2);
        Check.due("nothing yet", x.tells(0, 0, 0), -1);
        x.pass(1);
        Check.due("the flash", x.tells(0, 0, 0), 20);
        Check.due("the feature is not there yet", x.tells(0, 0, 1), -1);
        x.pass(3);
        Check.due("the feature came later, but has a smaller number", x.tells(0, 0, 0), 20);
        Check.due("its other fact", x.tells(0, 0, 1), 11);
        Check.due("the other story", x.tells(0, 1, 0), 88);
        Check.due("the lag of the other desk", x.tells(1, 0, 0) * 100 + x.tells(1, 0, 1), 1999);
        x.kill(1);
        Check.due("not dropped yet", x.tells(0, 0, 0), 20);
        x.pass(1);
        Check.due("dropped: the one ahead of it", x.tells(0, 0, 0), 10);
        Check.due("the other desk has not dropped it", x.tells(1, 0, 0), 20);
        x.pass(3);
        Check.due("now it has", x.tells(1, 0, 0), 10);
    }

    private static void tellsRefused() {
        Slugwire x = house();
        x.line(60, 0);
        Check.refusesIndex("line 1", x, () -> x.tells(1, 0, 0));
        Check.refusesIndex("line -1", x, () -> x.tells(-1, 0, 0));
        Check.refusesIndex("story 2", x, () -> x.tells(0, 2, 0));
        Check.refusesIndex("story -1", x, () -> x.tells(0, -1, 0));
        Check.refusesIndex("fact 4", x, () -> x.tells(0, 0, 4));
        Check.refusesIndex("fact -1", x, () -> x.tells(0, 1, -1));
    }

    private static void dueOfLine(Slugwire x, String when, int line, int... due) {
        for (int what = 0; what < due.length; what++) {
            Check.due(when + ": ofLine(" + line + ", " + what + ")", x.ofLine(line, what), due[what]);
        }
    }

    /** Promise 20. */
    private static void ofLine() {
        Slugwire x = house();
        x.line(20, 1);
        x.line(7, 0);
        x.report(5, 0, 0, 10);
        x.report(5, 0, 1, 11);
        x.report(5, 1, 3, 12);
        x.file(0, 3, 3, false, 0);
        x.file(1, 0, 8, false, 50);
        x.down(1, 3);
        dueOfLine(x, "at first", 0, 20, 1, 0, 2, 58, 0, 0, 0);
        x.pass(4);
        dueOfLine(x, "after 4 minutes", 0, 20, 1, 0, 1, 8, 50, 2, 0);
        dueOfLine(x, "down for 3 of them", 1, 7, 0, 0, 2, 51, 7, 0, 0);
        x.report(5, 0, 0, 20);
        x.retract(5, 0, 1);
        dueOfLine(x, "one is wrong, one has no truth", 0, 20, 1, 0, 1, 8, 50, 2, 1);
        x.kill(0);
        dueOfLine(x, "the kill waits", 0, 20, 1, 0, 2, 13, 50, 2, 1);
        dueOfLine(x, "it does not run any more", 1, 7, 0, 0, 1, 8, 7, 0, 0);
        x.pass(2);
        dueOfLine(x, "it was dropped", 0, 20, 1, 0, 1, 8, 55, 0, 0);
        x.pass(44);
        dueOfLine(x, "a word of the other flash is left", 1, 7, 0, 0, 1, 1, 14, 0, 0);
        x.pass(6);
        dueOfLine(x, "the flash of the other story", 1, 7, 0, 0, 0, 0, 15, 1, 0);
    }

    private static void ofLineRefused() {
        Slugwire x = house();
        x.line(60, 0);
        Check.refusesIndex("line 1", x, () -> x.ofLine(1, 0));
        Check.refusesIndex("line -1", x, () -> x.ofLine(-1, 0));
        Check.refusesArgument("what 8", x, () -> x.ofLine(0, 8));
        Check.refusesArgument("what -1", x, () -> x.ofLine(0, -1));
        Check.refusesIndex("line 1 goes ahead of what 8", x, () -> x.ofLine(1, 8));
    }

    /** Promise 21. */
    private static void many() {
        Slugwire x = house();
        x.line(60, 0);
        x.line(60, 5);
        x.line(1, 0);
        x.report(5, 0, 0, 10);
        x.report(5, 1, 3, 12);
        x.report(0, 0, 2, 12);
        x.file(0, 0, 1, false, 0);
        x.file(1, 0, 8, false, 0);
        x.file(0, 4, 4, true, 0);
        x.pass(6);
        x.report(5, 0, 0, 11);
        x.correct(0, 0);
        x.correct(0, 0);
        x.kill(3);
        x.kill(1);
        x.rival(1, 3);
        x.rival(0, 1);
        int[] due = {6, 8, 2, 3, 7, 2, 2, 2, 1, 3, 2};
        for (int what = 0; what <= 10; what++) {
            Check.due("many(" + what + ")", x.many(what), due[what]);
        }
        Slugwire y = house();
        y.report(0, 0, 0, 5);
        Check.due("the first fact is said without a truth", y.many(8), 1);
        y.report(0, 1, 3, 5);
        Check.due("the last one too", y.many(8), 2);
        for (int wrong : new int[] {-1, 11, Integer.MAX_VALUE, Integer.MIN_VALUE}) {
            Check.refusesArgument("many(" + wrong + ")", x, () -> x.many(wrong));
        }
    }

    /** Promise 21 and others, with all that there may be, the first and the last of each counting. */
    private static void fullHouse() {
        Slugwire x = new Slugwire();
        for (int n = 0; n < 10; n++) {
            x.source(3, -1);
        }
        for (int n = 0; n < 4; n++) {
            x.line(60, 0);
        }
        for (int s = 0; s < 6; s++) {
            x.story();
            for (int f = 0; f < 4; f++) {
                x.report(9, s, f, s * 4 + f);
                x.file(s, 0, 1 << f, false, 0);
            }
        }
        Check.due("24 truths", x.many(7), 24);
        Check.due("all are sent on 4 lines", x.pass(4), 4 * 24);
        for (int s = 0; s < 6; s++) {
            for (int f = 0; f < 4; f++) {
                x.report(9, s, f, 99);
            }
        }
        Check.due("24 are wrong at 4 desks", x.many(10), 4 * 24);
        Check.due("24 are wrong at the last one", x.ofLine(3, 7), 24);
        Check.due("24 are told at the last one", x.ofLine(3, 6), 24);
        Check.due("we are first with 24", x.many(9), 24);
        for (int n = 24; n < 60; n++) {
            x.file(5, 0, 8, false, 0);
        }
        Check.due("60 takes", x.many(4), 60);
        Check.due("36 wait on the last line", x.ofLine(3, 3), 36);
        Check.due("the last one goes", x.pass(9), 4 * 36);
        Check.due("the last one is there", x.state(3, 59), 4);
        Check.due("its fact is right", x.many(10), 4 * 23);
        Check.dueExactly("the mean of 1 to 4 and 1 to 5 minutes",
            x.meanDelay(), (7 + 8 * 2 + 7 * 3 + 2 * 4 + 7 + 8 * 2 + 7 * 3 + 8 * 4 + 6 * 5) / 60.0);
        for (int s = 0; s < 6; s++) {
            for (int f = 0; f < 4; f++) {
                x.retract(9, s, f);
            }
        }
        Check.due("nothing is said any more", x.many(8), 0);
        Check.due("so nothing is wrong", x.many(10), 0);
    }

    /** Promise 22: from the minute of filing or the hold, whichever is greater, killed ones too. */
    private static void meanDelay() {
        Slugwire x = house();
        x.line(4, 9);
        x.line(60, 0);
        x.report(5, 0, 0, 10);
        x.pass(10);
        x.file(0, 0, 1, false, 0);
        Check.dueExactly("none was sent", x.meanDelay(), 0.0);
        x.pass(1);
        Check.dueExactly("1 minute on line 1; on line 0 half of it", x.meanDelay(), 1.0);
        x.pass(1);
        Check.dueExactly("2 minutes on line 0", x.meanDelay(), 1.5);
        x.file(0, 0, 1, false, 20);
        x.pass(10);
        Check.dueExactly("held up to 20: 1 minute on line 0, none on line 1", x.meanDelay(), 4.0 / 4.0);
        x.kill(0);
        x.file(0, 0, 1, false, 3);
        x.pass(9);
        Check.dueExactly("2 and 1 of the kill; 4 and 1 of a hold that is over", x.meanDelay(), 12.0 / 8.0);
        x.file(0, 4, 1, false, 0);
        x.pass(1);
        x.kill(4);
        Check.dueExactly("what was never sent does not count", x.meanDelay(), 12.0 / 8.0);
        x.file(0, 0, 1, false, 0);
        x.pass(2);
        Check.dueExactly("not cut", x.meanDelay(), 15.0 / 10.0);
        x.line(8, 0);
        x.file(0, 0, 1, false, 0);
        x.pass(9);
        Check.dueExactly("19 of 13", x.meanDelay(), 19.0 / 13.0);
    }
}
