/** All that an object tells of itself, as a text. */
final class Snapshot {
    private static final int BINS = 40;
    private static final int DAYS_AHEAD = 60;

    private Snapshot() {
    }

    static String of(WareHall hall) {
        StringBuilder text = new StringBuilder();
        text.append("day ").append(hall.day()).append(" lots ").append(hall.lots());
        text.append(" due ").append(hall.countsDue()).append(" next ").append(Check.outcome(hall::nextCount));
        text.append(" served ").append(Check.outcome(hall::served)).append('\n');
        addItems(hall, text);
        addBins(hall, text);
        addPromises(hall, text);
        addEntries(hall, text);
        return text.toString();
    }

    private static void addItems(WareHall hall, StringBuilder text) {
        for (int i = 0; i < 7; i++) {
            int item = i;
            text.append("item ").append(item).append(' ').append(Check.outcome(() -> hall.onHand(item)));
            text.append(' ').append(Check.outcome(() -> hall.expired(item)));
            for (int ahead = 0; ahead <= DAYS_AHEAD; ahead++) {
                int day = hall.day() + ahead;
                text.append(' ').append(Check.outcome(() -> hall.available(item, day)));
                text.append(' ').append(Check.outcome(() -> hall.nextLot(item, day)));
            }
            for (int d = 0; d <= hall.day(); d++) {
                int day = d;
                text.append(' ').append(Check.outcome(() -> hall.onHandOn(item, day)));
            }
            text.append('\n');
        }
    }

    private static void addBins(WareHall hall, StringBuilder text) {
        for (int b = 0; b < BINS; b++) {
            int bin = b;
            text.append("bin ").append(bin).append(' ').append(hall.load(bin));
            text.append(' ').append(Check.outcome(() -> hall.countDay(bin)));
            for (int lot = 0; lot < hall.lots(); lot++) {
                text.append(' ').append(hall.stock(lot, bin)).append('=').append(hall.stockByJournal(lot, bin));
            }
            text.append('\n');
        }
    }

    private static void addPromises(WareHall hall, StringBuilder text) {
        for (int p = 0; p < 21; p++) {
            int promise = p;
            text.append("promise ").append(promise).append(' ').append(Check.outcome(() -> hall.status(promise)));
            for (int i = 0; i < 6; i++) {
                int item = i;
                text.append(' ').append(Check.outcome(() -> hall.quantity(promise, item)));
            }
            text.append(' ').append(Check.outcome(() -> hall.pickLines(promise)));
            text.append(' ').append(Check.outcome(() -> hall.walk(promise))).append('\n');
        }
    }

    private static void addEntries(WareHall hall, StringBuilder text) {
        for (int entry = 0; entry < hall.entries(); entry++) {
            text.append("entry ").append(entry).append(' ').append(hall.entryKind(entry));
            text.append(' ').append(hall.entryLot(entry)).append(' ').append(hall.entryFrom(entry));
            text.append(' ').append(hall.entryTo(entry)).append(' ').append(hall.entryQuantity(entry)).append('\n');
        }
    }
}
