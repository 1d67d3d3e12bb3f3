/** Each sentence of the document that names an edge has a test of its own here, and no such sentence is left out. */
final class EdgesTest {
    public static void main(String[] args) {
        Sentences sentences = new Sentences();
        EdgesOfTexts.run(sentences);
        EdgesOfActs.run(sentences);
        EdgesOfQuestions.run(sentences);
        EdgesOfRefusals.run(sentences);
        sentences.checkAllTold();
        Check.finish();
    }
}
