import java.util.List;

/** The document sentence by sentence; it fails too if words of it are left without a test. */
public final class SentencesTest {
    public static void main(String[] args) throws java.io.IOException {
        Document document = new Document();
        Check check = new Check();
        List<BySentence> parts = List.of(new TermsSentences(document, check), new TextSentences(document, check),
            new ToldSentences(document, check), new ChangeSentences(document, check));
        for (BySentence part : parts) {
            part.run();
            part.endSentence();
        }
        check.begin("the document's words");
        for (String fault : document.faults()) {
            check.fail(fault);
        }
        check.end();
    }
}
