/** Each sentence of the document with calls of its own: what it says holds, at its bounds, too; and no sentence is left out. */
public final class SentencesTest extends Sentences {
    public static void main(String[] args) throws Exception {
        readDocument();
        ToldSentences.all();
        NamesSentences.all();
        OldSentences.all();
        SheetSentences.all();
        mustBeWhole();
        finish();
    }
}
