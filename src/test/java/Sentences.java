import java.util.ArrayList;
import java.util.List;

/** Tests that each belong to one sentence of the document. */
final class Sentences {
    private record Sentence(String place, String quote, Runnable test) {
    }

    private final List<Sentence> all = new ArrayList<>();
    private String place = "";

    /** The sentences that follow stand there, for example at "Promise 4" or at "Terms, Lots". */
    Sentences at(String newPlace) {
        place = newPlace;
        return this;
    }

    Sentences say(String quote, Runnable test) {
        all.add(new Sentence(place, quote, test));
        return this;
    }

    void run(Check check, String name) {
        for (Sentence sentence : all) {
            check.about(sentence.place + ", \"" + sentence.quote + "\": ");
            try {
                sentence.test.run();
            } catch (RuntimeException e) {
                check.same("the test", e.toString(), "no exception");
            }
        }
        check.end(name);
    }

    boolean quote(String wantedPlace, String wantedSentence) {
        for (Sentence sentence : all) {
            if (sentence.place.equals(wantedPlace) && sentence.quote.equals(wantedSentence)) {
                return true;
            }
        }
        return false;
    }

    /** The quotes that the document does not have, each behind its place. */
    List<String> misquotes() {
        List<String> wrong = new ArrayList<>();
        for (Sentence sentence : all) {
            if (!Doc.sentences(sentence.place).contains(sentence.quote)) {
                wrong.add(sentence.place + ", \"" + sentence.quote + "\"");
            }
        }
        return wrong;
    }
}
