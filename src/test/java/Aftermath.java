/**
 * A row of further calls on an object, and what they answer: it brings to light what no question shows at once,
 * as the ranks of substitutes, the day on which an empty bin was counted, or the expiry of a lot without units.
 */
final class Aftermath {
    private static final int BINS = 40;
    private static final int ITEMS = 6;
    private static final int PROMISES = 20;

    private final WareHall hall;
    private final StringBuilder text = new StringBuilder();

    private Aftermath(WareHall hall) {
        this.hall = hall;
    }

    static String of(WareHall hall) {
        Aftermath aftermath = new Aftermath(hall);
        aftermath.useSubstitutes();
        aftermath.visitEmptyBins();
        aftermath.addItems();
        aftermath.findUnitsOfEachLot();
        aftermath.pickAll();
        aftermath.letDaysPass();
        return aftermath.text.toString();
    }

    private Object tell(Check.Call call) {
        Object answer = Check.outcome(call);
        text.append(' ').append(answer);
        return answer;
    }

    /** A unit more than is available of an item comes from its first substitute that has one. */
    private void useSubstitutes() {
        for (int i = 0; i < ITEMS; i++) {
            int item = i;
            int due = hall.day();
            Object available = tell(() -> hall.available(item, due));
            if (available instanceof Integer units) {
                Object promise = tell(() -> hall.promise(item, Math.min(60, units + 1), due, true));
                for (int other = 0; other < ITEMS && promise instanceof Integer; other++) {
                    int each = other;
                    tell(() -> hall.quantity((Integer) promise, each));
                }
                tell(() -> hall.cancel(promise instanceof Integer number ? number : -1));
            }
        }
        text.append('\n');
    }

    private void visitEmptyBins() {
        int lot = firstLotWithUnits();
        int home = lot < 0 ? -1 : firstBinOf(lot);
        for (int b = 0; b < BINS && home >= 0; b++) {
            int bin = b;
            if (hall.load(bin) == 0) {
                tell(() -> hall.move(lot, home, bin, 1));
                tell(() -> hall.countDay(bin));
                tell(() -> hall.move(lot, bin, home, 1));
            }
        }
        text.append('\n').append(Snapshot.of(hall));
    }

    private int firstLotWithUnits() {
        for (int lot = 0; lot < hall.lots(); lot++) {
            if (firstBinOf(lot) >= 0) {
                return lot;
            }
        }
        return -1;
    }

    private int firstBinOf(int lot) {
        for (int bin = 0; bin < BINS; bin++) {
            if (hall.stock(lot, bin) > 0) {
                return bin;
            }
        }
        return -1;
    }

    private void addItems() {
        for (int added = 0; added < ITEMS; added++) {
            tell(() -> hall.addItem('A'));
        }
        for (int i = 0; i < ITEMS; i++) {
            for (int o = 0; o < ITEMS; o++) {
                int item = i;
                int other = o;
                tell(() -> hall.addSubstitute(item, other, 1));
            }
        }
        text.append('\n');
    }

    private void findUnitsOfEachLot() {
        for (int l = 0; l < hall.lots(); l++) {
            int lot = l;
            int bin = Math.max(0, firstBinOf(lot));
            tell(() -> hall.count(bin, lot, hall.stock(lot, bin) + 1));
        }
        text.append('\n').append(Snapshot.of(hall));
    }

    private void pickAll() {
        for (int p = 0; p < PROMISES; p++) {
            int promise = p;
            tell(() -> hall.pick(promise));
        }
        text.append('\n').append(Snapshot.of(hall));
    }

    private void letDaysPass() {
        tell(() -> hall.pass(1));
        tell(() -> hall.pass(30));
        text.append('\n').append(Snapshot.of(hall));
    }
}
