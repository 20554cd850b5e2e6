import java.util.ArrayList;
import java.util.Comparator;
import java.util.List;
import java.util.NoSuchElementException;
import java.util.TreeMap;

/** The warehouse of the document once more, each unit by itself, and as plain as can be. */
final class Model {
    private static final class Lot {
        int number;
        int item;
        int expiry;
    }

    private static final class Unit {
        Lot lot;
        int bin;
    }

    private static final class Promise {
        int due;
        char status = 'o';
        int[] quantities = new int[6];
        List<Line> picked;

        int sum() {
            int sum = 0;
            for (int quantity : quantities) {
                sum += quantity;
            }
            return sum;
        }
    }

    private record Line(int bin, int lot, int quantity) {
    }

    private record Entry(char kind, int lot, int from, int to, int quantity, int day) {
    }

    private final List<Character> items = new ArrayList<>();
    private final List<TreeMap<Integer, Integer>> ranks = new ArrayList<>();
    private final List<Lot> lots = new ArrayList<>();
    private final List<Unit> units = new ArrayList<>();
    private final List<Promise> promises = new ArrayList<>();
    private final List<Entry> journal = new ArrayList<>();
    private final List<Integer> route = new ArrayList<>();
    private final int[] countedOn = new int[40];
    private int today = 0;

    Model() {
        for (int position = 0; position <= 9; position++) {
            route.add(position);
        }
        for (int position = 9; position >= 0; position--) {
            route.add(10 + position);
        }
        for (int position = 0; position <= 9; position++) {
            route.add(20 + position);
        }
        for (int position = 9; position >= 0; position--) {
            route.add(30 + position);
        }
    }

    int addItem(char category) {
        argument("ABC".indexOf(category) >= 0);
        state(items.size() < 6);
        items.add(category);
        ranks.add(new TreeMap<>());
        return items.size() - 1;
    }

    int addSubstitute(int item, int other, int rank) {
        index(item, items.size());
        index(other, items.size());
        argument(rank >= 1 && rank <= 9);
        supported(item != other);
        state(!ranks.get(item).containsKey(other));
        ranks.get(item).put(other, rank);
        return ranks.get(item).size();
    }

    int receive(int item, int quantity, int expiry, int bin) {
        index(item, items.size());
        index(bin, 40);
        argument(quantity >= 1 && quantity <= 30);
        argument(expiry >= today && expiry <= today + 99);
        state(lots.size() < 24 && journal.size() < 150);
        supported(load(bin) + quantity <= 30);
        Lot lot = new Lot();
        lot.number = lots.size();
        lot.item = item;
        lot.expiry = expiry;
        lots.add(lot);
        bring(lot, bin, quantity);
        journal.add(new Entry('r', lot.number, -1, bin, quantity, today));
        return lot.number;
    }

    int move(int lot, int from, int to, int quantity) {
        index(lot, lots.size());
        index(from, 40);
        index(to, 40);
        argument(quantity >= 1 && quantity <= 30);
        state(journal.size() < 150);
        exists(stock(lot, from) >= quantity);
        supported(from != to && load(to) + quantity <= 30);
        takeAway(lot, from, quantity);
        bring(lots.get(lot), to, quantity);
        journal.add(new Entry('m', lot, from, to, quantity, today));
        return stock(lot, to);
    }

    int dispose(int lot) {
        index(lot, lots.size());
        int sum = 0;
        int bins = 0;
        for (int bin : route) {
            sum += stock(lot, bin);
            bins += stock(lot, bin) > 0 ? 1 : 0;
        }
        exists(sum > 0);
        supported(lots.get(lot).expiry < today);
        state(journal.size() + bins <= 150);
        for (int bin : route) {
            int quantity = stock(lot, bin);
            if (quantity > 0) {
                takeAway(lot, bin, quantity);
                journal.add(new Entry('d', lot, bin, -1, quantity, today));
            }
        }
        return sum;
    }

    int count(int bin, int lot, int found) {
        index(bin, 40);
        index(lot, lots.size());
        argument(found >= 0 && found <= 30);
        int before = stock(lot, bin);
        supported(load(bin) - before + found <= 30);
        state(found == before || journal.size() < 150);
        if (found > before) {
            bring(lots.get(lot), bin, found - before);
            journal.add(new Entry('c', lot, -1, bin, found - before, today));
        } else if (found < before) {
            takeAway(lot, bin, before - found);
            journal.add(new Entry('c', lot, bin, -1, before - found, today));
        }
        countedOn[bin] = today;
        int item = lots.get(lot).item;
        int broken = 0;
        while (shortDay(item) >= 0) {
            int day = shortDay(item);
            Promise last = null;
            for (Promise promise : promises) {
                if (promise.status == 'o' && promise.due >= day && promise.quantities[item] > 0) {
                    last = promise;
                }
            }
            last.status = 'b';
            broken++;
        }
        return broken;
    }

    private int shortDay(int item) {
        for (int day = today + 200; day >= today; day--) {
            if (stockFor(item, day) < promisedFor(item, day)) {
                return day;
            }
        }
        return -1;
    }

    int promise(int item, int quantity, int due, boolean substitutes) {
        index(item, items.size());
        argument(quantity >= 1 && quantity <= 60);
        argument(due >= today && due <= today + 60);
        state(promises.size() < 20);
        List<Integer> sources = new ArrayList<>();
        if (substitutes) {
            sources.addAll(ranks.get(item).keySet());
            sources.sort(Comparator.comparing((Integer other) -> ranks.get(item).get(other)).thenComparing(o -> o));
        }
        sources.add(0, item);
        Promise promise = new Promise();
        promise.due = due;
        int rest = quantity;
        for (int source : sources) {
            promise.quantities[source] = Math.min(rest, available(source, due));
            rest -= promise.quantities[source];
        }
        supported(rest == 0);
        promises.add(promise);
        return promises.size() - 1;
    }

    int cancel(int promise) {
        index(promise, promises.size());
        state(promises.get(promise).status == 'o');
        promises.get(promise).status = 'c';
        return promises.get(promise).sum();
    }

    int pick(int promise) {
        index(promise, promises.size());
        state(promises.get(promise).status == 'o');
        List<Line> lines = lines(promise);
        state(journal.size() + lines.size() <= 150);
        for (Line line : lines) {
            takeAway(line.lot, line.bin, line.quantity);
            journal.add(new Entry('p', line.lot, line.bin, -1, line.quantity, today));
        }
        promises.get(promise).status = 'p';
        promises.get(promise).picked = lines;
        return lines.size();
    }

    char status(int promise) {
        index(promise, promises.size());
        return promises.get(promise).status;
    }

    int quantity(int promise, int item) {
        index(promise, promises.size());
        index(item, items.size());
        return promises.get(promise).quantities[item];
    }

    int available(int item, int due) {
        index(item, items.size());
        argument(due >= today && due <= today + 60);
        int least = Integer.MAX_VALUE;
        for (int day = today; day <= due; day++) {
            least = Math.min(least, stockFor(item, day) - promisedFor(item, day));
        }
        return least;
    }

    /** The latest promises take first what expires last of all that nobody else can use. */
    int availableByTrying(int item, int due) {
        index(item, items.size());
        argument(due >= today && due <= today + 60);
        int quantity = 0;
        while (canAllBeGiven(item, due, quantity + 1)) {
            quantity++;
        }
        return quantity;
    }

    private boolean canAllBeGiven(int item, int due, int quantity) {
        TreeMap<Integer, Integer> wanted = new TreeMap<>(Comparator.reverseOrder());
        wanted.put(due, quantity);
        for (Promise promise : promises) {
            if (promise.status == 'o') {
                wanted.merge(promise.due, promise.quantities[item], Integer::sum);
            }
        }
        List<Integer> expiries = new ArrayList<>();
        for (Unit unit : units) {
            if (unit.lot.item == item) {
                expiries.add(unit.lot.expiry);
            }
        }
        for (int day : wanted.keySet()) {
            for (int unit = 0; unit < wanted.get(day); unit++) {
                Integer lasting = expiries.stream().filter(expiry -> expiry >= day).findFirst().orElse(null);
                if (lasting == null) {
                    return false;
                }
                expiries.remove(lasting);
            }
        }
        return true;
    }

    int pickLines(int promise) {
        return linesOf(promise).size();
    }

    int pickBin(int promise, int line) {
        return line(promise, line).bin;
    }

    int pickLot(int promise, int line) {
        return line(promise, line).lot;
    }

    int pickQuantity(int promise, int line) {
        return line(promise, line).quantity;
    }

    int walk(int promise) {
        List<Line> lines = linesOf(promise);
        int last = 0;
        for (Line line : lines) {
            last = Math.max(last, line.bin / 10);
        }
        return shortestFrom(lines, 0, last, true) + 4 * last;
    }

    /** The shortest way from an end of an aisle to the front of the last one, along each line's bin. */
    private int shortestFrom(List<Line> lines, int aisle, int last, boolean front) {
        int there = 0;
        for (Line line : lines) {
            if (line.bin / 10 == aisle) {
                int fromFront = line.bin % 10 + 1;
                there = Math.max(there, front ? fromFront : 11 - fromFront);
            }
        }
        if (aisle == last) {
            return front ? 2 * there : 11;
        }
        return 4 + Math.min(2 * there + shortestFrom(lines, aisle + 1, last, front),
                11 + shortestFrom(lines, aisle + 1, last, !front));
    }

    int pass(int days) {
        argument(days >= 1 && days <= 30);
        int lapsed = 0;
        for (int passed = 0; passed < days; passed++) {
            today++;
            for (Promise promise : promises) {
                if (promise.status == 'o' && promise.due < today) {
                    promise.status = 'l';
                    lapsed++;
                }
            }
        }
        return lapsed;
    }

    int day() {
        return today;
    }

    int countsDue() {
        int bins = 0;
        for (int bin : route) {
            bins += load(bin) > 0 && countDay(bin) <= today ? 1 : 0;
        }
        return bins;
    }

    int nextCount() {
        List<Integer> bins = new ArrayList<>(route);
        bins.removeIf(bin -> load(bin) == 0);
        exists(!bins.isEmpty());
        bins.sort(Comparator.comparing(this::countDay));
        return bins.get(0);
    }

    int countDay(int bin) {
        index(bin, 40);
        exists(load(bin) > 0);
        int least = Integer.MAX_VALUE;
        for (Unit unit : units) {
            if (unit.bin == bin) {
                char category = items.get(unit.lot.item);
                least = Math.min(least, category == 'A' ? 5 : category == 'B' ? 10 : 20);
            }
        }
        return countedOn[bin] + least;
    }

    int stock(int lot, int bin) {
        index(lot, lots.size());
        index(bin, 40);
        return (int) units.stream().filter(unit -> unit.lot.number == lot && unit.bin == bin).count();
    }

    int load(int bin) {
        index(bin, 40);
        return (int) units.stream().filter(unit -> unit.bin == bin).count();
    }

    int lots() {
        return lots.size();
    }

    int nextLot(int item, int due) {
        index(item, items.size());
        Lot first = units.stream().map(unit -> unit.lot).filter(lot -> lot.item == item && lot.expiry >= due)
                .min(Comparator.comparing((Lot lot) -> lot.expiry).thenComparing(lot -> lot.number)).orElse(null);
        exists(first != null);
        return first.number;
    }

    int onHand(int item) {
        index(item, items.size());
        return stockFor(item, today);
    }

    int expired(int item) {
        index(item, items.size());
        return (int) units.stream().filter(u -> u.lot.item == item && u.lot.expiry < today).count();
    }

    int entries() {
        return journal.size();
    }

    char entryKind(int entry) {
        index(entry, journal.size());
        return journal.get(entry).kind;
    }

    int entryLot(int entry) {
        index(entry, journal.size());
        return journal.get(entry).lot;
    }

    int entryFrom(int entry) {
        index(entry, journal.size());
        return journal.get(entry).from;
    }

    int entryTo(int entry) {
        index(entry, journal.size());
        return journal.get(entry).to;
    }

    int entryQuantity(int entry) {
        index(entry, journal.size());
        return journal.get(entry).quantity;
    }

    int onHandOn(int item, int day) {
        index(item, items.size());
        argument(day >= 0 && day <= today);
        int sum = 0;
        for (Entry entry : journal) {
            if (lots.get(entry.lot).item == item && entry.day <= day && entry.kind != 'm') {
                sum += entry.to >= 0 ? entry.quantity : -entry.quantity;
            }
        }
        return sum;
    }

    float served() {
        int picked = 0;
        int ended = 0;
        for (Promise promise : promises) {
            picked += promise.status == 'p' ? 1 : 0;
            ended += promise.status != 'o' ? 1 : 0;
        }
        exists(ended > 0);
        return (float) picked / (float) ended;
    }

    private int stockFor(int item, int day) {
        return (int) units.stream().filter(u -> u.lot.item == item && u.lot.expiry >= day).count();
    }

    private int promisedFor(int item, int day) {
        int sum = 0;
        for (Promise promise : promises) {
            sum += promise.status == 'o' && promise.due >= day ? promise.quantities[item] : 0;
        }
        return sum;
    }

    private Line line(int promise, int line) {
        List<Line> lines = linesOf(promise);
        exists(line >= 0 && line < lines.size());
        return lines.get(line);
    }

    private List<Line> linesOf(int promise) {
        index(promise, promises.size());
        char status = promises.get(promise).status;
        state(status == 'o' || status == 'p');
        return status == 'p' ? promises.get(promise).picked : lines(promise);
    }

    private List<Line> lines(int number) {
        Promise promise = promises.get(number);
        List<Line> lines = new ArrayList<>();
        for (int item = 0; item < items.size(); item++) {
            List<Lot> usable = new ArrayList<>(lots);
            int wantedItem = item;
            usable.removeIf(lot -> lot.item != wantedItem || lot.expiry < promise.due);
            usable.sort(Comparator.comparing((Lot lot) -> lot.expiry).thenComparing(lot -> lot.number));
            int rest = promise.quantities[item];
            for (Lot lot : usable) {
                for (int bin : route) {
                    int taken = Math.min(rest, stock(lot.number, bin));
                    if (taken > 0) {
                        lines.add(new Line(bin, lot.number, taken));
                        rest -= taken;
                    }
                }
            }
            if (rest > 0) {
                throw new AssertionError("a promise that cannot be picked in full");
            }
        }
        lines.sort(Comparator.comparing((Line line) -> route.indexOf(line.bin)).thenComparing(line -> line.lot));
        return lines;
    }

    private void bring(Lot lot, int bin, int quantity) {
        for (int made = 0; made < quantity; made++) {
            Unit unit = new Unit();
            unit.lot = lot;
            unit.bin = bin;
            units.add(unit);
        }
    }

    private void takeAway(int lot, int bin, int quantity) {
        for (int gone = 0; gone < quantity; gone++) {
            units.remove(units.stream().filter(u -> u.lot.number == lot && u.bin == bin).findFirst().orElseThrow());
        }
    }

    private static void index(int number, int end) {
        if (number < 0 || number >= end) {
            throw new IndexOutOfBoundsException();
        }
    }

    private static void argument(boolean right) {
        if (!right) {
            throw new IllegalArgumentException();
        }
    }

    private static void state(boolean right) {
        if (!right) {
            throw new IllegalStateException();
        }
    }

    private static void supported(boolean right) {
        if (!right) {
            throw new UnsupportedOperationException();
        }
    }

    private static void exists(boolean right) {
        if (!right) {
            throw new NoSuchElementException();
        }
    }
}
