import java.util.List;

/** Each quote of the tests stands in the document, and each sentence of it that can be broken has a test. */
public final class QuotesTest {
    private static final Check CHECK = new Check();
    private static final List<Sentences> TESTS = List.of(FaceEdgesTest.sentences(), ItemsEdgesTest.sentences(),
            GoodsEdgesTest.sentences(), PromisesEdgesTest.sentences(), LinesEdgesTest.sentences(),
            DaysEdgesTest.sentences(), StocksEdgesTest.sentences(), JournalEdgesTest.sentences(),
            TermsGoodsEdgesTest.sentences(), TermsPromisesEdgesTest.sentences());
    /** Sentences that only leave something free, so that no class can break them. */
    private static final List<String> NOTHING_TO_BREAK = List.of(
            "The class is not thread-safe.",
            "How the state is held inside the object is free, as are the speed of each call, the text of toString and "
                    + "the behaviour of equals and hashCode.",
            "Use of one object from several threads at once is not promised to be safe.");
    /** These places have no sentences; FaceEdgesTest compares the face. */
    private static final List<String> WITHOUT_SENTENCES = List.of("# WareHall", "The public face");

    public static void main(String[] args) {
        if (!Doc.isThere()) {
            System.out.println("QuotesTest: the document is not there, so that the quotes are not compared with it");
            return;
        }
        for (Sentences tests : TESTS) {
            CHECK.same("quotes that the document does not have", tests.misquotes(), List.of());
        }
        for (String place : Doc.places()) {
            if (!WITHOUT_SENTENCES.contains(place)) {
                everySentenceIsQuoted(place);
            }
        }
        for (int promise = 1; promise <= 40; promise++) {
            CHECK.same("the document has Promise " + promise, Doc.places().contains("Promise " + promise), true);
        }
        CHECK.end("QuotesTest");
    }

    private static void everySentenceIsQuoted(String place) {
        for (String sentence : Doc.sentences(place)) {
            if (!NOTHING_TO_BREAK.contains(sentence)) {
                CHECK.same(place + ", \"" + sentence + "\" has a test", hasTest(place, sentence), true);
            }
        }
    }

    private static boolean hasTest(String place, String sentence) {
        for (Sentences tests : TESTS) {
            if (tests.quote(place, sentence)) {
                return true;
            }
        }
        return false;
    }
}
