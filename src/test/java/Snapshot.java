/** All that an object tells of itself, as a text: each answer of each call of the face that changes nothing. */
final class Snapshot {
    private static final int BINS = 40;
    private static final int ITEMS = 6;
    private static final int PROMISES = 20;
    private static final int DAYS_TO_DUE = 60;
    private static final int DAYS_TO_EXPIRY = 99;

    private final WareHall hall;
    private final StringBuilder text = new StringBuilder();

    private Snapshot(WareHall hall) {
        this.hall = hall;
    }

    static String of(WareHall hall) {
        Snapshot snapshot = new Snapshot(hall);
        snapshot.addAll();
        return snapshot.text.toString();
    }

    private void addAll() {
        text.append("day ").append(hall.day()).append(" lots ").append(hall.lots());
        text.append(" due ").append(hall.countsDue());
        tell(hall::nextCount);
        tell(hall::served);
        text.append('\n');
        for (int item = 0; item <= ITEMS; item++) {
            addItem(item);
        }
        for (int bin = 0; bin < BINS; bin++) {
            addBin(bin);
        }
        for (int promise = 0; promise <= PROMISES; promise++) {
            addPromise(promise);
        }
        addEntries();
    }

    private void tell(Check.Call call) {
        text.append(' ').append(Check.outcome(call));
    }

    private void addItem(int item) {
        Object onHand = Check.outcome(() -> hall.onHand(item));
        text.append("item ").append(item).append(' ').append(onHand);
        if (onHand instanceof Integer) {
            tell(() -> hall.expired(item));
            addDaysOf(item);
        }
        text.append('\n');
    }

    private void addDaysOf(int item) {
        for (int ahead = 0; ahead <= DAYS_TO_DUE; ahead++) {
            int due = hall.day() + ahead;
            tell(() -> hall.available(item, due));
            tell(() -> hall.availableByTrying(item, due));
        }
        text.append(" lots");
        for (int d = 0; d <= hall.day() + DAYS_TO_EXPIRY; d++) {
            int due = d;
            Object lot = Check.outcome(() -> hall.nextLot(item, due));
            text.append(' ').append(lot);
            if (!(lot instanceof Integer)) {
                break;
            }
        }
        text.append(" past");
        for (int d = 0; d <= hall.day(); d++) {
            int day = d;
            tell(() -> hall.onHandOn(item, day));
        }
    }

    private void addBin(int bin) {
        text.append("bin ").append(bin).append(' ').append(hall.load(bin));
        tell(() -> hall.countDay(bin));
        for (int lot = 0; lot < hall.lots(); lot++) {
            text.append(' ').append(hall.stock(lot, bin)).append('=').append(hall.stockByJournal(lot, bin));
        }
        text.append('\n');
    }

    private void addPromise(int promise) {
        Object status = Check.outcome(() -> hall.status(promise));
        text.append("promise ").append(promise).append(' ').append(status);
        if (status instanceof Character) {
            for (int i = 0; i < ITEMS; i++) {
                int item = i;
                tell(() -> hall.quantity(promise, item));
            }
            tell(() -> hall.walk(promise));
            tell(() -> hall.walkByTrying(promise));
            addLines(promise);
        }
        text.append('\n');
    }

    private void addLines(int promise) {
        Object lines = Check.outcome(() -> hall.pickLines(promise));
        text.append(" lines ").append(lines);
        int end = lines instanceof Integer number ? number : 0;
        for (int l = 0; l <= end; l++) {
            int line = l;
            tell(() -> hall.pickBin(promise, line));
            tell(() -> hall.pickLot(promise, line));
            tell(() -> hall.pickQuantity(promise, line));
        }
    }

    private void addEntries() {
        for (int entry = 0; entry < hall.entries(); entry++) {
            text.append("entry ").append(entry).append(' ').append(hall.entryKind(entry));
            text.append(' ').append(hall.entryLot(entry)).append(' ').append(hall.entryFrom(entry));
            text.append(' ').append(hall.entryTo(entry)).append(' ').append(hall.entryQuantity(entry)).append('\n');
        }
    }
}
