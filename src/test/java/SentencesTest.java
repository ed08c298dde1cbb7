/** Each sentence of the document by itself, most of all those that name a boundary: one test or more of its own. */
public final class SentencesTest {
    private SentencesTest() {
    }

    public static void main(String[] args) throws Exception {
        Due due = new Due("SentencesTest");
        Sentences all = new Sentences(due);
        BoardEdges.tell(all);
        TextEdges.tell(all);
        GameEdges.tell(all);
        StateEdges.tell(all);
        all.conclude();
        due.finish();
    }
}
