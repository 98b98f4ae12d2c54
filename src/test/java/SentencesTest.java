import java.io.IOException;

/** Each sentence of the document, the boundaries that it names above all, with a test of its own. */
public final class SentencesTest {
    public static void main(String[] args) throws IOException {
        Check check = new Check();
        Document document = new Document();
        new TermSentences(check, document).run();
        new NumberSentences(check, document).run();
        new LookSentences(check, document).run();
        new TextSentences(check, document).run();
        document.end(check);
        check.end("SentencesTest");
    }
}
