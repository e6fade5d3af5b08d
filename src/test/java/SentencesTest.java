import java.io.IOException;

/** Every sentence of the document, with its edges: one test for each, named by its promise and its words. */
final class SentencesTest {
    public static void main(String[] args) throws IOException {
        Sentences s = new Sentences();
        new TermEdges(s).all();
        new RowEdges(s).all();
        new DeedEdges(s).all();
        new BrightEdges(s).all();
        new RingEdges(s).all();
        new WhoseEdges(s).all();
        new ChanceEdges(s).all();
        new ToldEdges(s).all();
        s.allNamed();
        s.end("SentencesTest");
    }
}
