/** Promises 1 to 8: a new object, and what is told. */
public final class ToldTest {

    private ToldTest() {
    }

    public static void main(String[] args) {
        newObject();
        source();
        sourceOf();
        story();
        line();
        report();
        reportRefused();
        proofGrades();
        retract();
        rival();
        down();
        Check.end();
    }

    /** A house with two stories, and sources 0 unnamed, 1 unnamed, 2 named, 3 named, 4 official, all of none. */
    private static Slugwire house() {
        Slugwire x = new Slugwire();
        x.source(1, -1);
        x.source(1, -1);
        x.source(2, -1);
        x.source(2, -1);
        x.source(3, -1);
        x.story();
        x.story();
        return x;
    }

    /** Promise 1. */
    private static void newObject() {
        Slugwire x = new Slugwire();
        for (int what = 0; what <= 10; what++) {
            Check.due("many(" + what + ") of a new object", x.many(what), 0);
        }
        Check.dueExactly("meanDelay() of a new object", x.meanDelay(), 0.0);
        long d = 58223;
        for (int i = 0; i < 11; i++) {
            d = d * 31;
        }
        Check.due("digest() of a new object", x.digest(), d);
        Check.due("pass(1) of a new object", x.pass(1), 0);
        new Slugwire().story();
        Check.due("many(2), as another object has a story", x.many(2), 0);
    }

    /** Promise 2: numbers, bounds, and which exception goes first. */
    private static void source() {
        Slugwire x = new Slugwire();
        Check.refusesIndex("source(1, 0) without sources", x, () -> x.source(1, 0));
        Check.refusesIndex("source(1, -2)", x, () -> x.source(1, -2));
        Check.refusesIndex("source(1, MIN)", x, () -> x.source(1, Integer.MIN_VALUE));
        Check.refusesArgument("source(0, -1)", x, () -> x.source(0, -1));
        Check.refusesArgument("source(4, -1)", x, () -> x.source(4, -1));
        Check.refusesIndex("source(0, 0): of goes ahead of weight", x, () -> x.source(0, 0));
        for (int n = 0; n < 10; n++) {
            Check.due("source() number " + n, x.source(1 + n % 3, n - 1), n);
        }
        Check.due("many(1)", x.many(1), 10);
        Check.refusesState("the 11th source", x, () -> x.source(1, -1));
        Check.refusesState("the 11th source, of the last", x, () -> x.source(3, 9));
        Check.refusesArgument("weight 0 goes ahead of too many", x, () -> x.source(0, -1));
        Check.refusesArgument("weight 4 goes ahead of too many", x, () -> x.source(4, 9));
        Check.refusesIndex("of 10 goes ahead of too many", x, () -> x.source(1, 10));
    }

    /** Promise 2: the root is that of the one that it is of. */
    private static void sourceOf() {
        Slugwire x = new Slugwire();
        x.source(1, -1);
        x.source(1, 0);
        x.source(1, 1);
        x.source(1, -1);
        x.source(1, 3);
        Check.due("2 is of 1, which is of 0", x.areIndependent(0, 2), false);
        Check.due("2 and 4", x.areIndependent(2, 4), true);
        Check.due("3 and 4", x.areIndependent(3, 4), false);
    }

    /** Promise 3. */
    private static void story() {
        Slugwire x = new Slugwire();
        for (int n = 0; n < 6; n++) {
            Check.due("story() number " + n, x.story(), n);
        }
        Check.refusesState("the 7th story", x, x::story);
        Check.due("many(2)", x.many(2), 6);
        Check.due("a fact of the last story", x.ofFact(5, 3, 0), -1);
    }

    /** Promise 4. */
    private static void line() {
        Slugwire x = new Slugwire();
        Check.refusesArgument("line(0, 0)", x, () -> x.line(0, 0));
        Check.refusesArgument("line(61, 0)", x, () -> x.line(61, 0));
        Check.refusesArgument("line(-1, 0)", x, () -> x.line(-1, 0));
        Check.refusesArgument("line(1, -1)", x, () -> x.line(1, -1));
        Check.refusesArgument("line(1, 10)", x, () -> x.line(1, 10));
        Check.due("line(1, 0)", x.line(1, 0), 0);
        Check.due("line(60, 9)", x.line(60, 9), 1);
        Check.due("line(30, 4)", x.line(30, 4), 2);
        Check.due("line(2, 1)", x.line(2, 1), 3);
        Check.refusesState("the 5th line", x, () -> x.line(1, 0));
        Check.refusesArgument("speed 0 goes ahead of too many", x, () -> x.line(0, 0));
        Check.refusesArgument("lag 10 goes ahead of too many", x, () -> x.line(1, 10));
        Check.due("many(3)", x.many(3), 4);
        Check.due("speed of line 1", x.ofLine(1, 0), 60);
        Check.due("lag of line 1", x.ofLine(1, 1), 9);
        Check.due("line 1 is not down", x.ofLine(1, 2), 0);
    }

    /** Promise 5: what is said now is in place of what was said, of this fact of this story alone. */
    private static void report() {
        Slugwire x = house();
        Check.due("one official", x.report(4, 0, 0, 7), 3);
        Check.due("it is the truth", x.ofFact(0, 0, 0), 7);
        Check.due("another fact", x.ofFact(0, 1, 1), -1);
        Check.due("another story", x.ofFact(1, 0, 1), -1);
        Check.due("something else instead", x.report(4, 0, 0, 8), 3);
        Check.due("nobody says 7", x.proof(0, 0, 7, true), 0);
        Check.due("the truth now", x.ofFact(0, 0, 0), 8);
        Check.due("one value said", x.ofFact(0, 0, 3), 1);
        Check.due("the same again", x.report(4, 0, 0, 8), 3);
        Check.due("one source says it", x.ofFact(0, 0, 2), 1);
        Check.due("an unnamed one of another value has no proof", x.report(1, 0, 0, 9), 0);
        Check.due("the truth is still that", x.ofFact(0, 0, 0), 8);
        Check.due("the smallest value", x.report(4, 1, 3, 0), 3);
        Check.due("it is the truth", x.ofFact(1, 3, 0), 0);
        Check.due("the greatest value", x.report(4, 1, 3, 99), 3);
        Check.due("it is the truth", x.ofFact(1, 3, 0), 99);
    }

    private static void reportRefused() {
        Slugwire x = house();
        Check.refusesIndex("report of source 5", x, () -> x.report(5, 0, 0, 0));
        Check.refusesIndex("report of source -1", x, () -> x.report(-1, 0, 0, 0));
        Check.refusesIndex("report of story 2", x, () -> x.report(0, 2, 0, 0));
        Check.refusesIndex("report of story -1", x, () -> x.report(0, -1, 0, 0));
        Check.refusesIndex("report of fact 4", x, () -> x.report(0, 0, 4, 0));
        Check.refusesIndex("report of fact -1 of story 1", x, () -> x.report(0, 1, -1, 0));
        Check.refusesArgument("report of value 100", x, () -> x.report(0, 0, 0, 100));
        Check.refusesArgument("report of value -1", x, () -> x.report(0, 0, 0, -1));
        Check.refusesIndex("source 5 goes ahead of value 100", x, () -> x.report(5, 0, 0, 100));
        Check.refusesIndex("story 2 goes ahead of value 100", x, () -> x.report(0, 2, 0, 100));
        Check.refusesIndex("fact 4 goes ahead of value 100", x, () -> x.report(0, 0, 4, 100));
    }

    /** Promise 5: the answer is the proof; three roots, two independent named ones, an official one. */
    private static void proofGrades() {
        Slugwire x = house();
        x.source(2, 2);
        x.source(1, 0);
        x.source(2, 0);
        Check.due("one named", x.report(2, 0, 0, 5), 0);
        Check.due("two named, the same root", x.report(5, 0, 0, 5), 0);
        Check.due("and one unnamed: two roots", x.report(0, 0, 0, 5), 0);
        Check.due("and one of that", x.report(6, 0, 0, 5), 0);
        Check.due("and another root", x.report(1, 0, 0, 5), 1);
        Check.due("and another named root", x.report(7, 0, 0, 5), 2);
        Check.due("and an official one", x.report(4, 0, 0, 5), 3);
        Check.due("two named of two roots", x.report(2, 0, 1, 5) + 10 * x.report(3, 0, 1, 5), 20);
        Check.due("a named one behind an unnamed root", x.report(7, 0, 2, 5) + 10 * x.report(3, 0, 2, 5), 20);
    }

    /** Promise 6. */
    private static void retract() {
        Slugwire x = house();
        Check.refusesState("retract without a report", x, () -> x.retract(0, 0, 0));
        x.report(4, 0, 0, 42);
        x.report(4, 1, 3, 0);
        x.report(0, 0, 0, 43);
        Check.refusesState("retract of another fact", x, () -> x.retract(4, 0, 1));
        Check.refusesState("retract of another story", x, () -> x.retract(4, 1, 0));
        Check.refusesState("retract of another source", x, () -> x.retract(1, 0, 0));
        Check.due("retract(4, 0, 0)", x.retract(4, 0, 0), 42);
        Check.due("there is no truth", x.ofFact(0, 0, 0), -1);
        Check.due("another one is heard", x.ofFact(0, 0, 1), 43);
        Check.refusesState("retract once more", x, () -> x.retract(4, 0, 0));
        Check.due("the value 0 of another fact", x.retract(4, 1, 3), 0);
        Check.due("nothing is heard of it", x.ofFact(1, 3, 1), -1);
        Check.refusesIndex("retract of source 5", x, () -> x.retract(5, 0, 0));
        Check.refusesIndex("retract of source -1", x, () -> x.retract(-1, 0, 0));
        Check.refusesIndex("retract of story 2", x, () -> x.retract(0, 2, 0));
        Check.refusesIndex("retract of story -1", x, () -> x.retract(0, -1, 0));
        Check.refusesIndex("retract of fact 4", x, () -> x.retract(0, 0, 4));
        Check.refusesIndex("retract of fact -1", x, () -> x.retract(0, 1, -1));
    }

    /** Promise 7: the first time counts. */
    private static void rival() {
        Slugwire x = house();
        Check.due("the first rival", x.rival(0, 1), true);
        x.pass(3);
        Check.due("the second rival", x.rival(0, 1), false);
        Check.due("the minute of the first", x.ofFact(0, 1, 4), 0);
        Check.due("another fact", x.rival(0, 2), true);
        Check.due("its minute", x.ofFact(0, 2, 4), 3);
        Check.due("a fact of another story", x.rival(1, 1), true);
        Check.refusesIndex("rival of story 2", x, () -> x.rival(2, 0));
        Check.refusesIndex("rival of story -1", x, () -> x.rival(-1, 0));
        Check.refusesIndex("rival of fact 4", x, () -> x.rival(0, 4));
        Check.refusesIndex("rival of fact -1", x, () -> x.rival(1, -1));
    }

    /** Promise 8: in place of what it was; a minute of it sends nothing. */
    private static void down() {
        Slugwire x = house();
        x.line(60, 0);
        x.line(60, 0);
        x.report(4, 0, 0, 1);
        x.file(0, 0, 1, false, 0);
        Check.due("down(0, 99)", x.down(0, 99), 0);
        Check.due("down(0, 2)", x.down(0, 2), 99);
        Check.due("the other line is not down", x.ofLine(1, 2), 0);
        Check.due("the other line sends", x.pass(1), 1);
        Check.due("down for one more minute", x.ofLine(0, 2), 1);
        Check.due("the last minute of it", x.pass(1), 0);
        Check.due("not down any more", x.ofLine(0, 2), 0);
        Check.due("and then it sends", x.pass(1), 1);
        Check.due("down(0, 5)", x.down(0, 5), 0);
        x.pass(1);
        Check.due("down(0, 0)", x.down(0, 0), 4);
        Check.due("is not down", x.ofLine(0, 2), 0);
        Check.refusesIndex("down of line 2", x, () -> x.down(2, 1));
        Check.refusesIndex("down of line -1", x, () -> x.down(-1, 1));
        Check.refusesArgument("down for -1", x, () -> x.down(0, -1));
        Check.refusesArgument("down for 100", x, () -> x.down(0, 100));
        Check.refusesIndex("line 2 goes ahead of 100 minutes", x, () -> x.down(2, 100));
    }
}
