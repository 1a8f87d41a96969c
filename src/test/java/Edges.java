import java.util.ArrayList;
import java.util.List;

/** The tests of one promise at its edges, each named by the sentence of the document it holds. */
final class Edges {
    private static final int PROMISES = 26;

    /** What the sentences tested so far say, by promises. */
    static final class Book {
        private final Tally tally;
        private final Document document;
        private final List<List<String>> held = new ArrayList<>();

        Book(Tally tally, Document document) {
            this.tally = tally;
            this.document = document;
            for (int promise = 0; promise <= PROMISES; promise++) {
                held.add(new ArrayList<>());
            }
        }

        Edges promise(int number) {
            return new Edges(this, number);
        }

        /** Each range of an argument, and each refusal, must have been named by a test. */
        void close() {
            tally.test("each range and each refusal of the document has a test of its own", () -> {
                for (int promise = 1; promise <= PROMISES; promise++) {
                    for (String limit : document.limits(promise)) {
                        if (!names(promise, limit)) {
                            throw new AssertionError("promise " + promise + ": " + limit);
                        }
                    }
                }
            });
        }

        private boolean names(int promise, String limit) {
            for (String sentence : held.get(promise)) {
                if (limit.contains(sentence)) {
                    return true;
                }
            }
            return false;
        }
    }

    private final Book book;
    private final int promise;

    private Edges(Book book, int promise) {
        this.book = book;
        this.promise = promise;
    }

    /** A test of what the sentence says, which must stand in the document word by word. */
    void holds(String sentence, Tally.Body body) {
        book.held.get(promise).add(sentence);
        book.tally.test("promise " + promise + ": " + sentence, () -> {
            if (!book.document.says(promise, sentence)) {
                throw new AssertionError("the document does not say this");
            }
            body.run();
        });
    }
}
