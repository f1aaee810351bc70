/**
 * Tests told by the sentence of the document that they are for. A sentence that the document does
 * not have, and one that is named but not tested, counts as an answer that is not as due.
 */
final class Boundaries {
    private final Due due;
    private final Document document;
    private String sentence = "";
    private int answers = 1;

    Boundaries(Due due, Document document) {
        this.due = due;
        this.document = document;
    }

    /** From here on the answers are those that this sentence asks for. */
    void sentence(String section, String words) {
        end();
        sentence = section + ", \"" + words + "\"";
        answers = 0;
        due.holds("the document has " + sentence, document.quote(section, words));
    }

    /** A sentence that names no boundary case, or one whose case no run of calls comes to. */
    void withoutCase(String section, String words, String why) {
        end();
        due.holds("the document has " + section + ", \"" + words + "\"", document.quote(section, words));
        due.holds("why no case: " + words, !why.isEmpty());
    }

    void is(String call, long got, long want) {
        answers++;
        due.is(sentence + ": " + call, got, want);
    }

    void holds(String what, boolean it) {
        is(what, it ? 1 : 0, 1);
    }

    void isText(String what, String got, String want) {
        holds(what + " is " + got + ", due is " + want, got.equals(want));
    }

    void end() {
        due.holds("tested: " + sentence, answers > 0);
        answers = 1;
    }
}
