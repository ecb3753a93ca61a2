import java.io.IOException;
import java.util.regex.Pattern;

/** Each sentence of the document that names an edge, by a test of its own: see Edge. */
public final class EdgesTest {
    /** Words without which no sentence of the document names an edge. */
    private static final Pattern EDGE = Pattern.compile("\\b(if|NONE|at most|otherwise|without|or more|wraps|exceptions?)\\b");

    private EdgesTest() {
    }

    public static void main(String[] args) throws IOException {
        EdgesOfTerms.test();
        EdgesOfTold.test();
        EdgesOfDone.test();
        EdgesOfAsked.test();
        EdgesOfWouldBe.test();
        if (Doc.isHere()) {
            compareQuotes(new Doc());
        } else {
            System.out.println("the document is not here, so the tests' quotes are not compared with it");
        }
        Check.end();
    }

    /** The tests quote what stands in the document, and leave out no clause with an edge in it. */
    private static void compareQuotes(Doc doc) {
        for (int promise = 0; promise <= doc.promises(); promise++) {
            for (String quote : Edge.quotes(promise)) {
                Check.due("promise " + promise + " says once: " + quote, doc.hasOnce(promise, quote), true);
            }
            for (String clause : doc.unquoted(promise, Edge.quotes(promise))) {
                Check.due("promise " + promise + ", without a test: " + clause, EDGE.matcher(clause).find(), false);
            }
        }
    }
}
