import java.util.List;

/** Each quote of the tests stands in the document, and each sentence of it that can be broken has a test. */
public final class QuotesTest {
    private static final Check CHECK = new Check();
    private static final List<Sentences> TESTS = List.of(ItemsEdgesTest.sentences(), GoodsEdgesTest.sentences(),
            PromisesEdgesTest.sentences(), LinesEdgesTest.sentences(), DaysEdgesTest.sentences(),
            StocksEdgesTest.sentences(), JournalEdgesTest.sentences(), TermsGoodsEdgesTest.sentences(),
            TermsPromisesEdgesTest.sentences());
    /** Sentences that tell what the class is about, and that no call can break. */
    private static final List<String> NOTHING_TO_BREAK = List.of(
            "A warehouse whose goods come in lots with a day of expiry.",
            "Goods are received into bins, moved, promised for a day, picked along the shortest walk, counted in "
                    + "cycles and disposed of.",
            "The class is not thread-safe.");

    public static void main(String[] args) {
        if (!Doc.isThere()) {
            System.out.println("QuotesTest: the document is not there, so that the quotes are not compared with it");
            return;
        }
        for (Sentences tests : TESTS) {
            CHECK.same("quotes that the document does not have", tests.misquotes(), List.of());
        }
        for (String place : Doc.places()) {
            if (place.startsWith("Promise ") || place.startsWith("Terms") || place.equals("What it is")) {
                everySentenceIsQuoted(place);
            }
        }
        for (int promise = 1; promise <= 40; promise++) {
            CHECK.same("the document has Promise " + promise, Doc.places().contains("Promise " + promise), true);
        }
        CHECK.end("QuotesTest");
    }

    private static void everySentenceIsQuoted(String place) {
        for (String sentence : Doc.sentences(place)) {
            boolean needed = !NOTHING_TO_BREAK.contains(sentence) && !sentence.startsWith("Ahead of the calls ");
            if (needed) {
                CHECK.same(place + ", \"" + sentence + "\" has a test", hasTest(place, sentence), true);
            }
        }
    }

    private static boolean hasTest(String place, String sentence) {
        for (Sentences tests : TESTS) {
            if (tests.quote(place, sentence)) {
                return true;
            }
        }
        return false;
    }
}
