/** Each sentence of the document that names a boundary case, with a test of its own. */
public final class SentencesTest {
    public static void main(String[] args) throws Exception {
        Check check = new Check();
        Sentences sentences = new Sentences(check);
        new TermsEdges(check, sentences).run();
        new AnswersEdges(check, sentences).run();
        new WritingEdges(check, sentences).run();
        new ResultEdges(check, sentences).run();
        new DivisorEdges(check, sentences).run();
        new RootEdges(check, sentences).run();
        new ReadingEdges(check, sentences).run();
        sentences.noneLeft();
        check.end();
    }
}
