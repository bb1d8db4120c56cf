import java.io.IOException;
import java.nio.file.Path;

/** Runs the tests of the document's sentences and looks for a sentence without one. Wants the path of the document. */
final class SentencesTest {
    public static void main(String[] args) throws IOException {
        Sentences.read(Path.of(args[1]));
        DescriptionSentences.hold();
        RuleSentences.hold();
        PreciseSentences.hold();
        PartsSentences.hold();
        RequestsSentences.hold();
        StocksSentences.hold();
        MovementsSentences.hold();
        TextsSentences.hold();
        HistorySentences.hold();
        notPromised();
        Sentences.end();
        Check.end("SentencesTest");
    }

    private static void notPromised() {
        Sentences.under("Not promised");
        Sentences.noCase("How the state is held inside the object is free, as are the speed of each call, the text of"
            + " toString and the behaviour of equals and hashCode.");
        Sentences.noCase("Use of one object from several threads at once is not promised to be safe.");
        Sentences.noCase("Nothing is promised beyond the answers and state changes described above, and nothing about an"
            + " object after its 512th call.");
    }
}
