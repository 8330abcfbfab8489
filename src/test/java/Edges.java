/** Runs the tests of edges, each behind the words of the document that it is about. */
final class Edges {
    final Due due;
    private final Document document;

    Edges(Due due, Document document) {
        this.due = due;
        this.document = document;
    }

    void promise(int number, String words, Runnable test) {
        sentence("Promise " + number, words, test);
    }

    void terms(String words, Runnable test) {
        sentence("Terms", words, test);
    }

    void sentence(String section, String words, Runnable test) {
        document.quote(section, words);
        due.about(section + ", '" + words + "': ");
        try {
            test.run();
        } catch (RuntimeException | AssertionError e) {
            due.text("the test itself ended by", e.toString(), "its last line");
        }
        due.about("");
    }
}
