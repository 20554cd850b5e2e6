import java.util.ArrayList;
import java.util.List;
import java.util.function.Function;

/**
 * A WareHall as the tests use it: for at most 512 calls, since the document promises nothing about later ones. It
 * keeps its calls, so that a twin can be made on which the same calls were made; what a test asks of twins uses up
 * none of the calls.
 */
final class Hall {
    static final int CALLS = 512;

    private final WareHall hall = new WareHall();
    private final List<Function<WareHall, ?>> calls = new ArrayList<>();
    private Hall asked = null;
    private int callsWhenAsked = 0;

    int callsLeft() {
        return CALLS - calls.size();
    }

    /** Another object on which all calls were made that were made on this one, refused ones too. */
    Hall twin() {
        Hall twin = new Hall();
        for (Function<WareHall, ?> call : calls) {
            Check.outcome(() -> twin.answer(call));
        }
        return twin;
    }

    /** What a question would answer as the next call, or the name of the exception that it would throw. */
    Object ask(Function<Hall, ?> question) {
        if (asked == null || callsWhenAsked != calls.size() || asked.callsLeft() == 0) {
            asked = twin();
            callsWhenAsked = calls.size();
        }
        return Check.outcome(() -> question.apply(asked));
    }

    private <T> T answer(Function<WareHall, T> call) {
        if (callsLeft() == 0) {
            throw new AssertionError("a test makes a call more than " + CALLS + " on one object");
        }
        calls.add(call);
        return call.apply(hall);
    }

    int addItem(char category) {
        return answer(w -> w.addItem(category));
    }

    int addSubstitute(int item, int other, int rank) {
        return answer(w -> w.addSubstitute(item, other, rank));
    }

    int receive(int item, int quantity, int expiry, int bin) {
        return answer(w -> w.receive(item, quantity, expiry, bin));
    }

    int move(int lot, int from, int to, int quantity) {
        return answer(w -> w.move(lot, from, to, quantity));
    }

    int dispose(int lot) {
        return answer(w -> w.dispose(lot));
    }

    int count(int bin, int lot, int found) {
        return answer(w -> w.count(bin, lot, found));
    }

    int promise(int item, int quantity, int due, boolean substitutes) {
        return answer(w -> w.promise(item, quantity, due, substitutes));
    }

    int cancel(int promise) {
        return answer(w -> w.cancel(promise));
    }

    int pick(int promise) {
        return answer(w -> w.pick(promise));
    }

    char status(int promise) {
        return answer(w -> w.status(promise));
    }

    int quantity(int promise, int item) {
        return answer(w -> w.quantity(promise, item));
    }

    int available(int item, int due) {
        return answer(w -> w.available(item, due));
    }

    int availableByTrying(int item, int due) {
        return answer(w -> w.availableByTrying(item, due));
    }

    int pickLines(int promise) {
        return answer(w -> w.pickLines(promise));
    }

    int pickBin(int promise, int line) {
        return answer(w -> w.pickBin(promise, line));
    }

    int pickLot(int promise, int line) {
        return answer(w -> w.pickLot(promise, line));
    }

    int pickQuantity(int promise, int line) {
        return answer(w -> w.pickQuantity(promise, line));
    }

    int walk(int promise) {
        return answer(w -> w.walk(promise));
    }

    int walkByTrying(int promise) {
        return answer(w -> w.walkByTrying(promise));
    }

    int pass(int days) {
        return answer(w -> w.pass(days));
    }

    int day() {
        return answer(WareHall::day);
    }

    int countsDue() {
        return answer(WareHall::countsDue);
    }

    int nextCount() {
        return answer(WareHall::nextCount);
    }

    int countDay(int bin) {
        return answer(w -> w.countDay(bin));
    }

    int stock(int lot, int bin) {
        return answer(w -> w.stock(lot, bin));
    }

    int stockByJournal(int lot, int bin) {
        return answer(w -> w.stockByJournal(lot, bin));
    }

    int load(int bin) {
        return answer(w -> w.load(bin));
    }

    int lots() {
        return answer(WareHall::lots);
    }

    int nextLot(int item, int due) {
        return answer(w -> w.nextLot(item, due));
    }

    int onHand(int item) {
        return answer(w -> w.onHand(item));
    }

    int expired(int item) {
        return answer(w -> w.expired(item));
    }

    int entries() {
        return answer(WareHall::entries);
    }

    char entryKind(int entry) {
        return answer(w -> w.entryKind(entry));
    }

    int entryLot(int entry) {
        return answer(w -> w.entryLot(entry));
    }

    int entryFrom(int entry) {
        return answer(w -> w.entryFrom(entry));
    }

    int entryTo(int entry) {
        return answer(w -> w.entryTo(entry));
    }

    int entryQuantity(int entry) {
        return answer(w -> w.entryQuantity(entry));
    }

    int onHandOn(int item, int day) {
        return answer(w -> w.onHandOn(item, day));
    }

    float served() {
        return answer(WareHall::served);
    }
}
