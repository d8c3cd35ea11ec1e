import java.io.IOException;
import java.util.List;

/** Each sentence of the document by a test of its own; it fails, too, where words of a promise or of the terms have none. */
public final class SentencesTest {
    public static void main(String[] args) throws IOException {
        Document document = new Document();
        List<Sentences> parts = List.of(
            new RowSentences(document), new TextSentences(document), new PeopleSentences(document), new DeedSentences(document),
            new AsideSentences(document), new ChanceSentences(document), new ToldSentences(document), new RefusalSentences(document));
        for (Sentences part : parts) {
            part.all();
        }
        Check.begin("../shared/DOC.md");
        Check.due("promises", document.promises(), 42);
        for (String section : document.sections()) {
            Check.that(section + " has words without a test: " + document.untested(section), document.untested(section).isEmpty());
        }
        Check.end("SentencesTest");
    }
}
