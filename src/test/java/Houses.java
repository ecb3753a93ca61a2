/** Calls that make the houses which several tests begin with. */
final class Houses {

    /** A story, source 0 official and 1 unnamed; facts 0 (10), 1 (11), 2 (12) true, fact 3 (13) only heard. */
    static final String STORY = "source(3, NONE); source(1, NONE); story();"
        + "report(0, 0, 0, 10); report(0, 0, 1, 11); report(0, 0, 2, 12); report(1, 0, 3, 13)";

    /**
     * 4 sources, 2 stories, 2 lines, 5 takes, NOW 3. On line 0: take 0 with some words gone, flash 1 and its kill 3 sent
     * and on their way, correction 2 with some words gone; on line 1, which is down: 0 and 2 at the desk, 1 dropped; take
     * 4 is held on both. A rival told the facts 0 and 1 of story 0.
     */
    static final String BUSY = "source(3, NONE); source(1, NONE); source(2, NONE); source(2, 1); story(); story();"
        + "line(7, 3); line(60, 0); report(0, 0, 0, 50); report(0, 0, 1, 99); report(0, 1, 3, 0); report(1, 0, 2, 7);"
        + "rival(0, 1); file(0, 3, 3, false, 0); file(0, 0, 4, true, 0); pass(2); report(0, 0, 0, 40); correct(0, 0);"
        + "kill(1); pass(1); file(1, 4, 8, false, 20); down(1, 5); rival(0, 0)";

    /** All that there may be: 10 sources, 6 stories, 4 lines, 60 takes; each fact has a truth. NOW is 9. */
    static final String FULL = full();

    private Houses() {
    }

    private static String full() {
        StringBuilder calls = new StringBuilder("source(3, NONE); source(2, NONE); source(2, NONE)");
        for (int n = 3; n < 10; n++) {
            calls.append("; source(1, ").append(n % 2 == 0 ? n - 1 : -1).append(')');
        }
        calls.append("; line(60, 0); line(1, 9); line(30, 4); line(7, 2)");
        calls.append("; story()".repeat(6));
        for (int i = 0; i < 24; i++) {
            calls.append("; report(0, ").append(i / 4).append(", ").append(i % 4).append(", ").append(i).append(')');
        }
        for (int s = 0; s < 6; s++) {
            calls.append("; file(").append(s).append(", 3, 15, false, 0)");
        }
        calls.append("; pass(9); report(0, 0, 0, 70); report(1, 0, 1, 5); correct(0, 0); kill(1)");
        return calls.append("; file(5, 0, 8, false, 0)".repeat(52)).toString();
    }

    /** The call once for each fact of six stories, with STORY and FACT in it. */
    static String eachFact(String call) {
        StringBuilder calls = new StringBuilder();
        for (int i = 0; i < 24; i++) {
            calls.append(i == 0 ? "" : "; ");
            calls.append(call.replace("STORY", String.valueOf(i / 4)).replace("FACT", String.valueOf(i % 4)));
        }
        return calls.toString();
    }
}
