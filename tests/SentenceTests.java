/** Each sentence of the document that names a boundary case, by itself. */
public final class SentenceTests {
    public static void main(String[] args) throws Exception {
        SignalSentences.tell();
        FrameSentences.tell();
        PathSentences.tell();
        SpanSentences.tell();
        MarkSentences.tell();
        if (!Sentences.finish()) {
            System.exit(1);
        }
    }
}
