import java.io.IOException;

/**
 * Each sentence of "What it is", "Terms" and promises 1 to 21 in the document: a test of its own for the
 * boundary case that it names, or why there is none. It fails, too, if a sentence is left out.
 */
public final class BoundaryTest {
    public static void main(String[] args) throws IOException {
        Due due = new Due("BoundaryTest");
        Document document = new Document();
        due.is("sections: What it is, Terms and 21 promises", document.sectionCount(), 23);
        Boundaries to = new Boundaries(due, document);
        BoundaryPart[] parts = {new TermsOfRefusals(to), new TermsOfNumbers(to), new TermsOfWords(to),
            new PromisesOfNumbers(to), new PromisesOfWords(to), new PromisesOfImages(to)};
        for (BoundaryPart part : parts) {
            part.run();
        }
        to.end();
        String rest = document.notQuoted();
        due.holds("every sentence has its test or its note; left out: " + rest, rest.isEmpty());
        due.finish();
    }
}
