import java.util.function.Function;

/**
 * Rows of further calls on twins of an object, and what they answer: they bring to light what no question shows at
 * once, as the ranks of substitutes, the day on which an empty bin was counted, or the expiry of a lot without units.
 */
final class Aftermath {
    private static final int BINS = 40;
    private static final int ITEMS = 6;
    private static final int PROMISES = 20;

    private final StringBuilder text = new StringBuilder();
    private Hall hall;

    static String of(Hall hall) {
        Aftermath aftermath = new Aftermath();
        aftermath.add(hall, aftermath::useSubstitutes);
        aftermath.add(hall, aftermath::visitEmptyBins);
        aftermath.add(hall, aftermath::addItems);
        aftermath.add(hall, aftermath::findUnitsOfEachLot);
        aftermath.add(hall, aftermath::pickAll);
        aftermath.add(hall, aftermath::letDaysPass);
        return aftermath.text.toString();
    }

    private void add(Hall before, Runnable row) {
        hall = before.twin();
        row.run();
        text.append('\n').append(Snapshot.of(hall)).append('\n');
    }

    private Object tell(Check.Call call) {
        Object answer = Check.outcome(call);
        text.append(' ').append(answer);
        return answer;
    }

    private int number(Function<Hall, Integer> question) {
        return hall.ask(question) instanceof Integer number ? number : 0;
    }

    /** A unit more than is available of an item comes from its first substitute that has one. */
    private void useSubstitutes() {
        int due = number(Hall::day);
        for (int i = 0; i < ITEMS; i++) {
            int item = i;
            int units = Math.min(60, number(h -> h.available(item, due)) + 1);
            Object promise = tell(() -> hall.promise(item, units, due, true));
            for (int other = 0; other < ITEMS && promise instanceof Integer; other++) {
                int each = other;
                tell(() -> hall.quantity((Integer) promise, each));
            }
            tell(() -> hall.cancel(promise instanceof Integer number ? number : -1));
        }
    }

    private void visitEmptyBins() {
        int lot = firstLotWithUnits();
        int home = lot < 0 ? -1 : firstBinOf(lot);
        for (int b = 0; b < BINS && home >= 0; b++) {
            int bin = b;
            if (number(h -> h.load(bin)) == 0) {
                tell(() -> hall.move(lot, home, bin, 1));
                tell(() -> hall.countDay(bin));
                tell(() -> hall.move(lot, bin, home, 1));
            }
        }
    }

    private int firstLotWithUnits() {
        int lots = number(Hall::lots);
        for (int lot = 0; lot < lots; lot++) {
            if (firstBinOf(lot) >= 0) {
                return lot;
            }
        }
        return -1;
    }

    private int firstBinOf(int lot) {
        for (int b = 0; b < BINS; b++) {
            int bin = b;
            if (number(h -> h.stock(lot, bin)) > 0) {
                return bin;
            }
        }
        return -1;
    }

    private void addItems() {
        for (int added = 0; added < ITEMS; added++) {
            tell(() -> hall.addItem('A'));
        }
        for (int i = 0; i < ITEMS; i++) {
            for (int o = 0; o < ITEMS; o++) {
                int item = i;
                int other = o;
                tell(() -> hall.addSubstitute(item, other, 1));
            }
        }
    }

    private void findUnitsOfEachLot() {
        int lots = number(Hall::lots);
        for (int l = 0; l < lots; l++) {
            int lot = l;
            int bin = Math.max(0, firstBinOf(lot));
            int found = number(h -> h.stock(lot, bin)) + 1;
            tell(() -> hall.count(bin, lot, found));
        }
    }

    private void pickAll() {
        for (int p = 0; p < PROMISES; p++) {
            int promise = p;
            tell(() -> hall.pick(promise));
        }
    }

    private void letDaysPass() {
        tell(() -> hall.pass(1));
        tell(() -> hall.pass(30));
    }
}
