/** Each sentence of the document, with a test of its own; and that none was left out. */
public final class SentencesTest {
    public static void main(String[] args) {
        Due due = new Due("SentencesTest");
        new TermsSentences(due).all();
        new AdditionsSentences(due).all();
        new HistorySentences(due).all();
        new ErrorsSentences(due).all();
        new MembersSentences(due).all();
        new RoomSentences(due).all();
        new TellingSentences(due).all();
        due.everySentence();
        due.end();
    }
}
