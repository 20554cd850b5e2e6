import java.util.function.Function;

/**
 * All that an object tells of itself, as a text: each answer of each call of the face that changes nothing. Twins of
 * the object are asked, as many as it takes, so that none of them makes more calls than the document allows.
 */
final class Snapshot {
    private static final int BINS = 40;
    private static final int ITEMS = 6;
    private static final int PROMISES = 20;
    private static final int DAYS_TO_DUE = 60;
    private static final int DAYS_TO_EXPIRY = 99;

    private final Hall hall;
    private final int day;
    private final StringBuilder text = new StringBuilder();

    private Snapshot(Hall hall) {
        this.hall = hall;
        day = number(Hall::day);
    }

    static String of(Hall hall) {
        Snapshot snapshot = new Snapshot(hall);
        snapshot.addAll();
        return snapshot.text.toString();
    }

    private int number(Function<Hall, ?> question) {
        return hall.ask(question) instanceof Integer number ? number : 0;
    }

    private Object tell(Function<Hall, ?> question) {
        Object answer = hall.ask(question);
        text.append(' ').append(answer);
        return answer;
    }

    private void addAll() {
        text.append("day");
        tell(Hall::day);
        tell(Hall::lots);
        tell(Hall::countsDue);
        tell(Hall::nextCount);
        tell(Hall::served);
        for (int item = 0; item <= ITEMS; item++) {
            addItem(item);
        }
        for (int bin = 0; bin < BINS; bin++) {
            addBin(bin);
        }
        for (int promise = 0; promise <= PROMISES; promise++) {
            addPromise(promise);
        }
        addEntries();
    }

    private void addItem(int item) {
        text.append("\nitem ").append(item);
        if (tell(h -> h.onHand(item)) instanceof Integer) {
            tell(h -> h.expired(item));
            addDaysOf(item);
        }
    }

    private void addDaysOf(int item) {
        for (int ahead = 0; ahead <= DAYS_TO_DUE; ahead++) {
            int due = day + ahead;
            tell(h -> h.available(item, due));
            tell(h -> h.availableByTrying(item, due));
        }
        text.append(" lots");
        boolean more = true;
        for (int d = 0; more && d <= day + DAYS_TO_EXPIRY; d++) {
            int due = d;
            more = tell(h -> h.nextLot(item, due)) instanceof Integer;
        }
        text.append(" past");
        for (int d = 0; d <= day; d++) {
            int past = d;
            tell(h -> h.onHandOn(item, past));
        }
    }

    private void addBin(int bin) {
        text.append("\nbin ").append(bin);
        tell(h -> h.load(bin));
        tell(h -> h.countDay(bin));
        int lots = number(Hall::lots);
        for (int l = 0; l < lots; l++) {
            int lot = l;
            tell(h -> h.stock(lot, bin));
            tell(h -> h.stockByJournal(lot, bin));
        }
    }

    private void addPromise(int promise) {
        text.append("\npromise ").append(promise);
        if (tell(h -> h.status(promise)) instanceof Character) {
            for (int i = 0; i < ITEMS; i++) {
                int item = i;
                tell(h -> h.quantity(promise, item));
            }
            tell(h -> h.walk(promise));
            tell(h -> h.walkByTrying(promise));
            addLines(promise);
        }
    }

    private void addLines(int promise) {
        text.append(" lines");
        int end = tell(h -> h.pickLines(promise)) instanceof Integer number ? number : 0;
        for (int l = 0; l <= end; l++) {
            int line = l;
            tell(h -> h.pickBin(promise, line));
            tell(h -> h.pickLot(promise, line));
            tell(h -> h.pickQuantity(promise, line));
        }
    }

    private void addEntries() {
        text.append("\nentries");
        int entries = number(Hall::entries);
        for (int e = 0; e <= entries; e++) {
            int entry = e;
            text.append("\nentry ").append(entry);
            tell(h -> h.entryKind(entry));
            tell(h -> h.entryLot(entry));
            tell(h -> h.entryFrom(entry));
            tell(h -> h.entryTo(entry));
            tell(h -> h.entryQuantity(entry));
        }
    }
}
