/** Promises 23 to 27: what would be. */
public final class WouldBeTest {

    private WouldBeTest() {
    }

    public static void main(String[] args) {
        arrives();
        arrivesInTime();
        arrivesAtTheEnd();
        arrivesRefused();
        wouldArrive();
        wouldArriveRefused();
        needs();
        needsMany();
        needsRefused();
        lead();
        leadRefused();
        digest();
        Check.end();
    }

    /** A story with the facts 0 (value 10), 1 (11), 2 (12) true; source 0 official, 1 unnamed, 2 and 3 named. */
    private static Slugwire house() {
        Slugwire x = new Slugwire();
        x.source(3, -1);
        x.source(1, -1);
        x.source(2, -1);
        x.source(2, -1);
        x.story();
        x.report(0, 0, 0, 10);
        x.report(0, 0, 1, 11);
        x.report(0, 0, 2, 12);
        return x;
    }

    /** Promise 23: others on the way, the hold, the lag and the minutes that the line is down count. */
    private static void arrives() {
        Slugwire x = house();
        x.line(10, 3);
        x.line(60, 0);
        x.file(0, 3, 1, false, 0);
        x.line(60, 0);
        Check.due("35 words at 10 a minute, and the lag", x.arrives(0, 0), 4 + 3);
        Check.due("on the fast line", x.arrives(1, 0), 1);
        Check.due("on one where it does not run", x.arrives(2, 0), -1);
        x.file(0, 0, 1, false, 0);
        Check.due("a flash goes ahead", x.arrives(0, 1), 1 + 3);
        Check.due("so this one is later", x.arrives(0, 0), 5 + 3);
        x.file(0, 0, 2, false, 20);
        Check.due("a hold", x.arrives(0, 2), 20 + 3);
        x.down(0, 6);
        Check.due("down for 6 minutes", x.arrives(0, 1), 7 + 3);
        x.down(0, 0);
        long before = x.digest();
        x.arrives(0, 0);
        Check.due("nothing is changed", x.digest(), before);
        x.pass(1);
        Check.due("on its way", x.arrives(0, 1), 3);
        x.pass(2);
        Check.due("nearly there", x.arrives(0, 1), 1);
        x.pass(1);
        Check.due("there", x.arrives(0, 1), 0);
        x.pass(1);
        Check.due("there for a while", x.arrives(0, 1), 0);
        x.kill(1);
        Check.due("the kill goes ahead of the rest", x.arrives(0, 3), 1 + 3);
        x.pass(9);
        Check.due("dropped", x.state(0, 1), 5);
        Check.due("dropped, but it had it", x.arrives(0, 1), 0);
        x.kill(2);
        Check.due("killed ahead of being sent", x.arrives(0, 2), -1);
        Check.due("its kill runs nowhere", x.arrives(0, 4), -1);
    }

    /** Promise 23: 99 minutes at most, with the lag. */
    private static void arrivesInTime() {
        Slugwire x = house();
        x.line(1, 0);
        x.line(1, 9);
        x.line(60, 9);
        x.file(0, 4, 1, false, 0);
        Check.due("90 words", x.arrives(0, 0), 90);
        Check.due("90 words, and a lag of 9", x.arrives(1, 0), 99);
        x.down(0, 9);
        Check.due("9 minutes, and 90 words", x.arrives(0, 0), 99);
        x.down(0, 10);
        Check.due("10 minutes, and 90 words", x.arrives(0, 0), -1);
        x.down(1, 1);
        Check.due("1 minute, 90 words, and a lag of 9", x.arrives(1, 0), -1);
        x.file(0, 0, 1, false, 90);
        Check.due("a hold of 90, and a lag of 9", x.arrives(2, 1), 99);
        x.file(0, 0, 1, false, 91);
        Check.due("a hold of 91, and a lag of 9", x.arrives(2, 2), -1);
        x.pass(1);
        Check.due("a minute later", x.arrives(2, 2), 99);
    }

    /** Promises 23 and 24: NOW has no bound in what would be. */
    private static void arrivesAtTheEnd() {
        Slugwire x = house();
        x.line(1, 9);
        for (int n = 0; n < 101; n++) {
            x.pass(99);
        }
        x.file(0, 4, 1, false, 9999);
        Check.due("90 words, and a lag of 9, from 9999 on", x.arrives(0, 0), 99);
        Check.due("a flash, at 9999", x.wouldArrive(0, 0, 8), 17);
        Check.due("many(0)", x.many(0), 9999);
    }

    private static void arrivesRefused() {
        Slugwire x = house();
        x.line(1, 9);
        x.file(0, 4, 1, false, 0);
        for (int wrong : new int[] {-1, 1, 60, Integer.MAX_VALUE, Integer.MIN_VALUE}) {
            Check.refusesIndex("arrives(" + wrong + ", 0)", x, () -> x.arrives(wrong, 0));
            Check.refusesIndex("arrives(0, " + wrong + ")", x, () -> x.arrives(0, wrong));
        }
    }

    /** Promise 24: behind all of its kind or a more urgent one, ahead of the others. */
    private static void wouldArrive() {
        Slugwire x = house();
        x.line(10, 2);
        Check.due("10 words", x.wouldArrive(0, 0, 10), 3);
        Check.due("11 words", x.wouldArrive(0, 4, 11), 4);
        Check.due("1 word", x.wouldArrive(0, 1, 1), 3);
        Check.due("200 words", x.wouldArrive(0, 2, 200), 22);
        x.file(0, 4, 1, false, 0);
        x.file(0, 3, 1, false, 5);
        Check.due("a feature of 3 words, behind 90 and 35", x.wouldArrive(0, 4, 3), 13 + 2);
        Check.due("a lead of 30 words is sent ahead of both", x.wouldArrive(0, 3, 30), 3 + 2);
        Check.due("a lead of 60 words is passed by the one that was held", x.wouldArrive(0, 3, 60), 10 + 2);
        Check.due("a correction goes ahead", x.wouldArrive(0, 2, 60), 6 + 2);
        long before = x.digest();
        x.wouldArrive(0, 0, 200);
        Check.due("nothing is changed", x.digest(), before);
        x.down(0, 3);
        Check.due("down for 3 minutes", x.wouldArrive(0, 0, 10), 4 + 2);
        x.line(2, 9);
        Check.due("180 words at 2 a minute, and a lag of 9", x.wouldArrive(1, 0, 180), 99);
        Check.due("181 words", x.wouldArrive(1, 0, 181), -1);
        x.file(0, 0, 1, false, 0);
        x.pass(3);
        Check.due("a kill goes behind a flash that began", x.wouldArrive(1, 1, 2), 1 + 1 + 9);
        x.pass(1);
        Check.due("the take that it tried is gone again", x.file(0, 0, 1, false, 0), 3);
    }

    private static void wouldArriveRefused() {
        Slugwire x = house();
        x.line(10, 2);
        Check.refusesIndex("line 1", x, () -> x.wouldArrive(1, 0, 1));
        Check.refusesIndex("line -1", x, () -> x.wouldArrive(-1, 0, 1));
        Check.refusesArgument("kind -1", x, () -> x.wouldArrive(0, -1, 1));
        Check.refusesArgument("kind 5", x, () -> x.wouldArrive(0, 5, 1));
        Check.refusesArgument("words 0", x, () -> x.wouldArrive(0, 0, 0));
        Check.refusesArgument("words 201", x, () -> x.wouldArrive(0, 0, 201));
        Check.refusesIndex("line 1 goes ahead of kind 5", x, () -> x.wouldArrive(1, 5, 0));
    }

    /** Promise 25: it needs a proof, and more force than each other one with a proof, or as much and a smaller value. */
    private static void needs() {
        Slugwire x = house();
        Check.due("it is the truth", x.needs(0, 0, 10, 1), 0);
        Check.due("a smaller value, official", x.needs(0, 0, 9, 3), 1);
        Check.due("a greater value, official", x.needs(0, 0, 11, 3), 2);
        Check.due("a smaller value, named", x.needs(0, 0, 9, 2), 2);
        Check.due("a smaller value, unnamed", x.needs(0, 0, 9, 1), 3);
        Check.due("a greater value, unnamed", x.needs(0, 0, 11, 1), 4);
        Check.due("without another one, official", x.needs(0, 3, 99, 3), 1);
        Check.due("without another one, named", x.needs(0, 3, 99, 2), 2);
        Check.due("without another one, unnamed", x.needs(0, 3, 99, 1), 3);
        x.report(2, 0, 3, 0);
        x.report(3, 0, 3, 1);
        Check.due("another one without proof is no bar", x.needs(0, 3, 99, 3), 1);
        Check.due("one named says it", x.needs(0, 3, 0, 2), 1);
        Check.due("one named says it: two more roots", x.needs(0, 3, 0, 1), 2);
        x.report(3, 0, 3, 0);
        Check.due("two named say it", x.needs(0, 3, 0, 3), 0);
        Check.due("a greater value needs more than 4", x.needs(0, 3, 1, 2), 3);
        x.report(1, 0, 3, 1);
        Check.due("one unnamed says it", x.needs(0, 3, 1, 2), 2);
        Check.due("nothing is changed", x.many(1), 4);
        Slugwire y = house();
        y.report(1, 0, 3, 20);
        y.report(2, 0, 3, 20);
        Check.due("as much force without proof is no bar", y.needs(0, 3, 99, 3), 1);
        y.report(0, 0, 3, 20);
        y.report(3, 0, 3, 40);
        Check.due("the other with the greatest force is not the last said", y.needs(0, 3, 50, 3), 3);
    }

    /** Promise 25: 10 at most, also more than there is room for. */
    private static void needsMany() {
        Slugwire x = new Slugwire();
        for (int n = 0; n < 10; n++) {
            x.source(n < 5 ? 2 : 1, -1);
        }
        x.story();
        for (int n = 0; n < 5; n++) {
            x.report(n, 0, 1, 50);
        }
        Check.due("as much as 10, and a smaller value", x.needs(0, 1, 49, 1), 10);
        Check.due("more than 10", x.needs(0, 1, 51, 1), -1);
        Check.due("more than 10 of weight 2", x.needs(0, 1, 51, 2), 6);
        x.report(5, 0, 1, 51);
        Check.due("more than 10, and one says it", x.needs(0, 1, 51, 1), 10);
        x.report(6, 0, 1, 50);
        Check.due("11, and one says it", x.needs(0, 1, 51, 1), -1);
        Check.due("11 of weight 3", x.needs(0, 1, 0, 3), 4);
    }

    private static void needsRefused() {
        Slugwire x = house();
        Check.refusesIndex("story 1", x, () -> x.needs(1, 0, 0, 1));
        Check.refusesIndex("story -1", x, () -> x.needs(-1, 0, 0, 1));
        Check.refusesIndex("fact 4", x, () -> x.needs(0, 4, 0, 1));
        Check.refusesIndex("fact -1", x, () -> x.needs(0, -1, 0, 1));
        Check.refusesArgument("value 100", x, () -> x.needs(0, 0, 100, 1));
        Check.refusesArgument("value -1", x, () -> x.needs(0, 0, -1, 1));
        Check.refusesArgument("weight 0", x, () -> x.needs(0, 0, 0, 0));
        Check.refusesArgument("weight 4", x, () -> x.needs(0, 0, 0, 4));
        Check.refusesIndex("story 1 goes ahead of weight 4", x, () -> x.needs(1, 0, 100, 4));
    }

    /** Promise 26: facts with a truth alone; the greatest force, of several the smallest number. */
    private static void lead() {
        Slugwire x = house();
        Check.due("no room for one", x.lead(0, 34), 0);
        Check.due("room for one: the smallest number", x.lead(0, 35), 1);
        Check.due("no room for two", x.lead(0, 49), 1);
        Check.due("room for two", x.lead(0, 50), 3);
        Check.due("room for three", x.lead(0, 65), 7);
        Check.due("the fourth has no truth", x.lead(0, 99), 7);
        Check.due("no words", x.lead(0, 0), 0);
        x.report(3, 0, 0, 50);
        Check.due("another value that is said last is no less force", x.lead(0, 35), 1);
        x.report(1, 0, 2, 12);
        Check.due("more force", x.lead(0, 35), 4);
        Check.due("with the smaller of the others", x.lead(0, 50), 5);
        x.report(2, 0, 3, 5);
        Check.due("heard alone is not enough", x.lead(0, 99), 7);
        x.report(3, 0, 3, 5);
        x.report(1, 0, 3, 5);
        Check.due("a force of 5", x.lead(0, 35), 8);
        Check.due("room for all", x.lead(0, 80), 15);
        Check.due("not quite", x.lead(0, 79), 13);
        x.report(0, 0, 3, 6);
        Check.due("the force is that of the truth, not of what is said last", x.lead(0, 35), 8);
        x.report(0, 0, 0, 20);
        x.report(2, 0, 0, 19);
        x.report(3, 0, 0, 19);
        Check.due("a force of 4 by 2 and 3", x.lead(0, 50), 9);
        x.story();
        Check.due("a story without truths", x.lead(1, 99), 0);
    }

    private static void leadRefused() {
        Slugwire x = house();
        Check.refusesIndex("story 1", x, () -> x.lead(1, 50));
        Check.refusesIndex("story -1", x, () -> x.lead(-1, 50));
        Check.refusesArgument("words -1", x, () -> x.lead(0, -1));
        Check.refusesArgument("words 100", x, () -> x.lead(0, 100));
        Check.refusesIndex("story 1 goes ahead of words 100", x, () -> x.lead(1, 100));
    }

    /** Promise 27: the sum over the answers, in their order. */
    private static void digest() {
        Slugwire x = house();
        x.story();
        x.line(5, 2);
        x.line(12, 0);
        x.file(0, 4, 5, false, 0);
        x.pass(3);
        x.report(0, 0, 0, 50);
        x.correct(0, 0);
        x.pass(3);
        x.kill(0);
        x.file(0, 4, 5, false, 0);
        x.file(0, 3, 1, false, 0);
        x.rival(0, 3);
        Check.due("35 and 50 words at 5 a minute", x.wouldArrive(0, 3, 50), 17 + 2);
        Check.due("35 and 50 words at 12 a minute", x.wouldArrive(1, 3, 50), 8);
        long d = 58223;
        for (int what = 0; what <= 10; what++) {
            d = d * 31 + x.many(what);
        }
        for (int i = 0; i < 8; i++) {
            for (int what = 0; what <= 6; what++) {
                d = d * 31 + x.ofFact(i / 4, i % 4, what);
            }
            d = d * 31 + x.needs(i / 4, i % 4, 50, 2);
        }
        d = (d * 31 + x.lead(0, 55)) * 31 + x.lead(1, 55);
        for (int t = 0; t < 5; t++) {
            for (int what = 0; what <= 8; what++) {
                d = d * 31 + x.ofTake(t, what);
            }
            for (int f = 0; f < 4; f++) {
                d = d * 31 + x.says(t, f);
            }
        }
        for (int l = 0; l < 2; l++) {
            for (int what = 0; what <= 7; what++) {
                d = d * 31 + x.ofLine(l, what);
            }
            d = d * 31 + x.wouldArrive(l, 3, 50);
            for (int t = 0; t < 5; t++) {
                d = d * 31 + x.state(l, t);
            }
        }
        for (int l = 0; l < 2; l++) {
            for (int i = 0; i < 8; i++) {
                d = d * 31 + x.tells(l, i / 4, i % 4);
            }
        }
        Check.due("digest()", x.digest(), d);
        Check.due("digest() once more", x.digest(), d);
    }
}
