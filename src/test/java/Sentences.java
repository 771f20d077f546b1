import java.util.ArrayList;
import java.util.List;

/** The tests of single sentences of the document: each is told with the words that it holds the class to. */
final class Sentences {
    /** What is asked of the class for one sentence. */
    interface Body {
        void run(Hand h);
    }

    /** Words of one part of the document, and their test. */
    record Sentence(String part, String words, Body body) {
        /** How many answers are not as due; a call that throws what it must not is one more. */
        int run(boolean isQuiet) {
            Hand h = new Hand(isQuiet);
            int thrown = 0;
            try {
                body.run(h);
            } catch (RuntimeException | StackOverflowError e) {
                thrown = 1;
                if (!isQuiet) {
                    System.out.println("thrown: " + e);
                }
            }
            int unasked = h.asked() == 0 ? 1 : 0;
            return h.wrong() + thrown + unasked;
        }
    }

    private final List<Sentence> all = new ArrayList<>();
    private String part = "";

    /** All sentences of the document, in its order. */
    static List<Sentence> all() {
        Sentences s = new Sentences();
        TextSentences.tell(s);
        SizeSentences.tell(s);
        LayingSentences.tell(s);
        CallSentences.tell(s);
        AnswerSentences.tell(s);
        return s.all;
    }

    /** What follows stands under this heading of the document. */
    void under(String heading) {
        part = heading;
    }

    void says(String words, Body body) {
        all.add(new Sentence(part, words, body));
    }
}
