import java.util.NoSuchElementException;

/** A warehouse whose goods come in lots with a day of expiry. */
public final class WareHall {
    private static final int MAX_ITEMS = 6;
    private static final int MAX_RANK = 9;
    private static final int MAX_LOTS = 24;
    private static final int MAX_DAYS_TO_EXPIRY = 99;
    private static final int MAX_PROMISES = 20;
    private static final int MAX_PROMISED = 60;
    private static final int MAX_DAYS_TO_DUE = 60;
    private static final int MAX_DAYS_TO_PASS = 30;
    private static final int MAX_ENTRIES = 150;
    private static final int BINS = 40;
    private static final int BINS_IN_AISLE = 10;
    private static final int BIN_SPACE = 30;
    private static final int AISLE_LENGTH = 11;
    private static final int AISLE_DISTANCE = 4;
    private static final int UNREACHED = 1000000;
    // A power of two; twice that is more than all bins can contain.
    private static final int FIRST_STEP_OF_TRYING = 1024;
    private static final int NONE = -1;

    private static final char RECEIVED = 'r';
    private static final char MOVED = 'm';
    private static final char PICKED_LINE = 'p';
    private static final char DISPOSED = 'd';
    private static final char COUNTED = 'c';

    private static final char OPEN = 'o';
    private static final char PICKED = 'p';
    private static final char CANCELLED = 'c';
    private static final char LAPSED = 'l';
    private static final char BROKEN = 'b';

    private final Items items;
    private final Goods goods;
    private final Promises promises;
    private final Journal journal;
    private final Lines lines;
    // Rows that calls use while they run, kept here so that no call makes new ones.
    private final int[] planned;
    private final int[] unitsLeft;
    private int today;

    public WareHall() {
        items = new Items();
        goods = new Goods();
        promises = new Promises();
        journal = new Journal();
        lines = new Lines();
        planned = new int[MAX_ITEMS];
        unitsLeft = new int[MAX_LOTS];
        today = 0;
    }

    // Items

    public int addItem(char category) throws IllegalArgumentException, IllegalStateException {
        if (category != 'A' && category != 'B' && category != 'C') {
            throw new IllegalArgumentException("the category is not A, B or C");
        }
        if (items.size >= MAX_ITEMS) {
            throw new IllegalStateException("there are 6 items");
        }
        return items.append(category);
    }

    public int addSubstitute(int item, int other, int rank)
            throws IndexOutOfBoundsException, IllegalArgumentException, UnsupportedOperationException,
            IllegalStateException {
        requireItem(item);
        requireItem(other);
        requireBetween(rank, 1, MAX_RANK);
        if (item == other) {
            throw new UnsupportedOperationException("an item is no substitute of itself");
        }
        if (items.ranks[item][other] != 0) {
            throw new IllegalStateException("it is a substitute already");
        }
        items.ranks[item][other] = rank;
        return items.substitutesOf(item);
    }

    // Goods

    public int receive(int item, int quantity, int expiry, int bin)
            throws IndexOutOfBoundsException, IllegalArgumentException, IllegalStateException,
            UnsupportedOperationException {
        requireItem(item);
        requireBin(bin);
        requireBetween(quantity, 1, BIN_SPACE);
        requireBetween(expiry, today, today + MAX_DAYS_TO_EXPIRY);
        if (goods.lotCount >= MAX_LOTS) {
            throw new IllegalStateException("there are 24 lots");
        }
        requireEntrySpace(1);
        requireBinSpace(bin, quantity);
        int lot = goods.appendLot(item, expiry);
        goods.change(lot, bin, quantity);
        journal.write(RECEIVED, lot, NONE, bin, quantity, today);
        return lot;
    }

    public int move(int lot, int from, int to, int quantity)
            throws IndexOutOfBoundsException, IllegalArgumentException, IllegalStateException,
            NoSuchElementException, UnsupportedOperationException {
        requireLot(lot);
        requireBin(from);
        requireBin(to);
        requireBetween(quantity, 1, BIN_SPACE);
        requireEntrySpace(1);
        if (goods.units[lot][from] < quantity) {
            throw new NoSuchElementException("there are fewer units of the lot in the bin");
        }
        if (from == to) {
            throw new UnsupportedOperationException("both bins are the same");
        }
        requireBinSpace(to, quantity);
        goods.change(lot, from, -quantity);
        goods.change(lot, to, quantity);
        journal.write(MOVED, lot, from, to, quantity, today);
        return goods.units[lot][to];
    }

    public int dispose(int lot)
            throws IndexOutOfBoundsException, NoSuchElementException, UnsupportedOperationException,
            IllegalStateException {
        requireLot(lot);
        int disposed = goods.lotUnits[lot];
        if (disposed == 0) {
            throw new NoSuchElementException("the lot has no units");
        }
        if (goods.expiries[lot] >= today) {
            throw new UnsupportedOperationException("the lot is not expired");
        }
        requireEntrySpace(goods.binsWith(lot));
        for (int place = 0; place < BINS; place++) {
            int bin = alongRoute(place);
            int part = goods.units[lot][bin];
            if (part > 0) {
                takeOut(DISPOSED, lot, bin, part);
            }
        }
        return disposed;
    }

    public int count(int bin, int lot, int found)
            throws IndexOutOfBoundsException, IllegalArgumentException, UnsupportedOperationException,
            IllegalStateException {
        requireBin(bin);
        requireLot(lot);
        requireBetween(found, 0, BIN_SPACE);
        int difference = found - goods.units[lot][bin];
        requireBinSpace(bin, difference);
        if (difference != 0) {
            requireEntrySpace(1);
        }
        if (difference > 0) {
            goods.change(lot, bin, difference);
            journal.write(COUNTED, lot, NONE, bin, difference, today);
        }
        if (difference < 0) {
            takeOut(COUNTED, lot, bin, -difference);
        }
        goods.countedOn[bin] = today;
        return breakPromises(goods.lotItems[lot]);
    }

    // Promises

    public int promise(int item, int quantity, int due, boolean substitutes)
            throws IndexOutOfBoundsException, IllegalArgumentException, IllegalStateException,
            UnsupportedOperationException {
        requireItem(item);
        requireBetween(quantity, 1, MAX_PROMISED);
        requireBetween(due, today, today + MAX_DAYS_TO_DUE);
        if (promises.size >= MAX_PROMISES) {
            throw new IllegalStateException("there are 20 promises");
        }
        if (planPromise(item, quantity, due, substitutes) > 0) {
            throw new UnsupportedOperationException("there is a rest");
        }
        return promises.append(due, planned);
    }

    public int cancel(int promise) throws IndexOutOfBoundsException, IllegalStateException {
        requirePromise(promise);
        requireOpen(promise);
        promises.states[promise] = CANCELLED;
        return promises.sumOf(promise);
    }

    public int pick(int promise) throws IndexOutOfBoundsException, IllegalStateException {
        requirePromise(promise);
        requireOpen(promise);
        findLines(promise);
        requireEntrySpace(lines.size);
        promises.firstEntries[promise] = journal.size;
        promises.lineCounts[promise] = lines.size;
        for (int line = 0; line < lines.size; line++) {
            takeOut(PICKED_LINE, lines.lots[line], lines.bins[line], lines.quantities[line]);
        }
        promises.states[promise] = PICKED;
        return lines.size;
    }

    public char status(int promise) throws IndexOutOfBoundsException {
        requirePromise(promise);
        return promises.states[promise];
    }

    public int quantity(int promise, int item) throws IndexOutOfBoundsException {
        requirePromise(promise);
        requireItem(item);
        return promises.quantities[promise][item];
    }

    public int available(int item, int due) throws IndexOutOfBoundsException, IllegalArgumentException {
        requireItem(item);
        requireBetween(due, today, today + MAX_DAYS_TO_DUE);
        return leastDifference(item, due);
    }

    public int availableByTrying(int item, int due) throws IndexOutOfBoundsException, IllegalArgumentException {
        requireItem(item);
        requireBetween(due, today, today + MAX_DAYS_TO_DUE);
        int given = 0;
        for (int step = FIRST_STEP_OF_TRYING; step > 0; step = step / 2) {
            if (canGive(item, due, given + step)) {
                given += step;
            }
        }
        return given;
    }

    // Pick lines

    public int pickLines(int promise) throws IndexOutOfBoundsException, IllegalStateException {
        loadLines(promise);
        return lines.size;
    }

    public int pickBin(int promise, int line)
            throws IndexOutOfBoundsException, IllegalStateException, NoSuchElementException {
        loadLines(promise);
        requireLine(line);
        return lines.bins[line];
    }

    public int pickLot(int promise, int line)
            throws IndexOutOfBoundsException, IllegalStateException, NoSuchElementException {
        loadLines(promise);
        requireLine(line);
        return lines.lots[line];
    }

    public int pickQuantity(int promise, int line)
            throws IndexOutOfBoundsException, IllegalStateException, NoSuchElementException {
        loadLines(promise);
        requireLine(line);
        return lines.quantities[line];
    }

    public int walk(int promise) throws IndexOutOfBoundsException, IllegalStateException {
        loadLines(promise);
        return lines.shortestWalk();
    }

    public int walkByTrying(int promise) throws IndexOutOfBoundsException, IllegalStateException {
        loadLines(promise);
        return lines.shortestWalkByTrying();
    }

    // Days and counts

    public int pass(int days) throws IllegalArgumentException {
        requireBetween(days, 1, MAX_DAYS_TO_PASS);
        // Nothing but lapsing happens when a day begins, so that the last day decides for all.
        today += days;
        return promises.lapseBefore(today);
    }

    public int day() {
        return today;
    }

    public int countsDue() {
        int bins = 0;
        for (int bin = 0; bin < BINS; bin++) {
            if (goods.binLoads[bin] > 0 && dayOfCount(bin) <= today) {
                bins++;
            }
        }
        return bins;
    }

    public int nextCount() throws NoSuchElementException {
        int next = NONE;
        int first = 0;
        for (int place = 0; place < BINS; place++) {
            int bin = alongRoute(place);
            if (goods.binLoads[bin] > 0 && (next == NONE || dayOfCount(bin) < first)) {
                next = bin;
                first = dayOfCount(bin);
            }
        }
        if (next == NONE) {
            throw new NoSuchElementException("all bins are empty");
        }
        return next;
    }

    public int countDay(int bin) throws IndexOutOfBoundsException, NoSuchElementException {
        requireBin(bin);
        if (goods.binLoads[bin] == 0) {
            throw new NoSuchElementException("the bin is empty");
        }
        return dayOfCount(bin);
    }

    // Stocks

    public int stock(int lot, int bin) throws IndexOutOfBoundsException {
        requireLot(lot);
        requireBin(bin);
        return goods.units[lot][bin];
    }

    public int stockByJournal(int lot, int bin) throws IndexOutOfBoundsException {
        requireLot(lot);
        requireBin(bin);
        return journal.unitsIn(lot, bin);
    }

    public int load(int bin) throws IndexOutOfBoundsException {
        requireBin(bin);
        return goods.binLoads[bin];
    }

    public int lots() {
        return goods.lotCount;
    }

    public int nextLot(int item, int due) throws IndexOutOfBoundsException, NoSuchElementException {
        requireItem(item);
        int lot = goods.firstLot(item, due);
        if (lot == NONE) {
            throw new NoSuchElementException("there is no such lot");
        }
        return lot;
    }

    public int onHand(int item) throws IndexOutOfBoundsException {
        requireItem(item);
        return goods.unitsFrom(item, today);
    }

    public int expired(int item) throws IndexOutOfBoundsException {
        requireItem(item);
        return goods.unitsBefore(item, today);
    }

    // Journal

    public int entries() {
        return journal.size;
    }

    public char entryKind(int entry) throws IndexOutOfBoundsException {
        requireEntry(entry);
        return journal.kinds[entry];
    }

    public int entryLot(int entry) throws IndexOutOfBoundsException {
        requireEntry(entry);
        return journal.lotsMoved[entry];
    }

    public int entryFrom(int entry) throws IndexOutOfBoundsException {
        requireEntry(entry);
        return journal.binsFrom[entry];
    }

    public int entryTo(int entry) throws IndexOutOfBoundsException {
        requireEntry(entry);
        return journal.binsTo[entry];
    }

    public int entryQuantity(int entry) throws IndexOutOfBoundsException {
        requireEntry(entry);
        return journal.quantities[entry];
    }

    public int onHandOn(int item, int day) throws IndexOutOfBoundsException, IllegalArgumentException {
        requireItem(item);
        requireBetween(day, 0, today);
        int units = 0;
        for (int lot = 0; lot < goods.lotCount; lot++) {
            if (goods.lotItems[lot] == item) {
                units += journal.unitsAtEndOf(lot, day);
            }
        }
        return units;
    }

    public float served() throws NoSuchElementException {
        int ended = promises.size - promises.countIn(OPEN);
        if (ended == 0) {
            throw new NoSuchElementException("no promise is other than open");
        }
        return (float) promises.countIn(PICKED) / (float) ended;
    }

    // What calls ask for

    private void requireItem(int item) {
        if (item < 0 || item >= items.size) {
            throw new IndexOutOfBoundsException("there is no such item");
        }
    }

    private void requireBin(int bin) {
        if (bin < 0 || bin >= BINS) {
            throw new IndexOutOfBoundsException("there is no such bin");
        }
    }

    private void requireLot(int lot) {
        if (lot < 0 || lot >= goods.lotCount) {
            throw new IndexOutOfBoundsException("there is no such lot");
        }
    }

    private void requirePromise(int promise) {
        if (promise < 0 || promise >= promises.size) {
            throw new IndexOutOfBoundsException("there is no such promise");
        }
    }

    private void requireEntry(int entry) {
        if (entry < 0 || entry >= journal.size) {
            throw new IndexOutOfBoundsException("there is no such entry");
        }
    }

    private void requireLine(int line) {
        if (line < 0 || line >= lines.size) {
            throw new NoSuchElementException("the promise has no such line");
        }
    }

    private void requireBetween(int value, int least, int greatest) {
        if (value < least || value > greatest) {
            throw new IllegalArgumentException("the argument is too small or too great");
        }
    }

    private void requireOpen(int promise) {
        if (promises.states[promise] != OPEN) {
            throw new IllegalStateException("the promise is not open");
        }
    }

    private void requireEntrySpace(int entries) {
        if (journal.size + entries > MAX_ENTRIES) {
            throw new IllegalStateException("the journal has too little space");
        }
    }

    private void requireBinSpace(int bin, int more) {
        if (goods.binLoads[bin] + more > BIN_SPACE) {
            throw new UnsupportedOperationException("the bin would contain more than 30 units");
        }
    }

    // What calls are made of

    /** The bin at a place of the route, and as well the place of a bin: each odd aisle is turned round. */
    private static int alongRoute(int number) {
        int aisle = number / BINS_IN_AISLE;
        int position = number % BINS_IN_AISLE;
        return aisle % 2 == 0 ? number : aisle * BINS_IN_AISLE + BINS_IN_AISLE - 1 - position;
    }

    private void takeOut(char kind, int lot, int bin, int quantity) {
        goods.change(lot, bin, -quantity);
        journal.write(kind, lot, bin, NONE, quantity, today);
    }

    private int breakPromises(int item) {
        int broken = 0;
        for (int round = 0; round < MAX_PROMISES; round++) {
            int day = lastDayTooShort(item);
            int promise = day == NONE ? NONE : promises.lastOpenFor(item, day);
            if (promise == NONE) {
                return broken;
            }
            promises.states[promise] = BROKEN;
            broken++;
        }
        return broken;
    }

    /** No open promise is due later than the days that are looked at, so that nothing is short then. */
    private int lastDayTooShort(int item) {
        for (int ahead = MAX_DAYS_TO_DUE; ahead >= 0; ahead--) {
            if (difference(item, today + ahead) < 0) {
                return today + ahead;
            }
        }
        return NONE;
    }

    private int difference(int item, int day) {
        return goods.unitsFrom(item, day) - promises.promisedFrom(item, day);
    }

    private int leastDifference(int item, int due) {
        int least = difference(item, today);
        int daysAhead = Math.min(due - today, MAX_DAYS_TO_DUE);
        for (int ahead = 1; ahead <= daysAhead; ahead++) {
            least = Math.min(least, difference(item, today + ahead));
        }
        return least;
    }

    /** Fills the planned quantities and returns the rest. */
    private int planPromise(int item, int quantity, int due, boolean substitutes) {
        for (int other = 0; other < MAX_ITEMS; other++) {
            planned[other] = 0;
        }
        int rest = planPart(item, quantity, due);
        if (!substitutes) {
            return rest;
        }
        for (int rank = 1; rank <= MAX_RANK; rank++) {
            for (int other = 0; other < items.size; other++) {
                if (items.ranks[item][other] == rank) {
                    rest = planPart(other, rest, due);
                }
            }
        }
        return rest;
    }

    private int planPart(int item, int wanted, int due) {
        if (wanted > 0) {
            planned[item] = Math.min(wanted, leastDifference(item, due));
        }
        return wanted - planned[item];
    }

    private boolean canGive(int item, int due, int quantity) {
        System.arraycopy(goods.lotUnits, 0, unitsLeft, 0, MAX_LOTS);
        // Lots that expire first are given first, so that no promise loses units that another could spare:
        // in whatever order the promises come, all get their units if that can be done at all.
        if (!give(item, due, quantity)) {
            return false;
        }
        for (int promise = 0; promise < promises.size; promise++) {
            if (promises.states[promise] == OPEN
                    && !give(item, promises.dues[promise], promises.quantities[promise][item])) {
                return false;
            }
        }
        return true;
    }

    private boolean give(int item, int due, int quantity) {
        int rest = quantity;
        for (int place = 0; place < goods.lotCount && rest > 0; place++) {
            int lot = goods.lotOrder[place];
            if (goods.lasts(lot, item, due)) {
                int part = Math.min(rest, unitsLeft[lot]);
                unitsLeft[lot] -= part;
                rest -= part;
            }
        }
        return rest == 0;
    }

    private void loadLines(int promise) {
        requirePromise(promise);
        char state = promises.states[promise];
        if (state != OPEN && state != PICKED) {
            throw new IllegalStateException("the promise is neither open nor was picked");
        }
        if (state == OPEN) {
            findLines(promise);
        } else {
            recallLines(promise);
        }
    }

    private void findLines(int promise) {
        lines.size = 0;
        for (int item = 0; item < items.size; item++) {
            findLinesOfItem(item, promises.dues[promise], promises.quantities[promise][item]);
        }
    }

    private void findLinesOfItem(int item, int due, int quantity) {
        int rest = quantity;
        for (int place = 0; place < goods.lotCount && rest > 0; place++) {
            int lot = goods.lotOrder[place];
            if (goods.lasts(lot, item, due)) {
                rest -= findLinesOfLot(lot, rest);
            }
        }
    }

    private int findLinesOfLot(int lot, int wanted) {
        int found = 0;
        for (int place = 0; place < BINS && found < wanted; place++) {
            int bin = alongRoute(place);
            int part = Math.min(wanted - found, goods.units[lot][bin]);
            if (part > 0) {
                lines.insert(bin, lot, part);
                found += part;
            }
        }
        return found;
    }

    /** The lines of a picked promise are its entries in the journal, which never change. */
    private void recallLines(int promise) {
        lines.size = 0;
        int first = promises.firstEntries[promise];
        int end = Math.min(first + promises.lineCounts[promise], journal.size);
        for (int entry = first; entry < end; entry++) {
            lines.insert(journal.binsFrom[entry], journal.lotsMoved[entry], journal.quantities[entry]);
        }
    }

    private int dayOfCount(int bin) {
        int least = Items.LONGEST_INTERVAL;
        for (int lot = 0; lot < goods.lotCount; lot++) {
            if (goods.units[lot][bin] > 0) {
                least = Math.min(least, items.intervalOf(goods.lotItems[lot]));
            }
        }
        return goods.countedOn[bin] + least;
    }

    /** The items and which of them are substitutes of which. */
    private static final class Items {
        private static final int LONGEST_INTERVAL = 20;

        private int size = 0;
        private final char[] categories = new char[MAX_ITEMS];
        // The rank of the second item as a substitute of the first one, 0 if it is none.
        private final int[][] ranks = new int[MAX_ITEMS][MAX_ITEMS];

        private int append(char category) {
            int item = size;
            categories[item] = category;
            size++;
            return item;
        }

        private int substitutesOf(int item) {
            int substitutes = 0;
            for (int other = 0; other < size; other++) {
                if (ranks[item][other] != 0) {
                    substitutes++;
                }
            }
            return substitutes;
        }

        private int intervalOf(int item) {
            if (categories[item] == 'A') {
                return 5;
            }
            return categories[item] == 'B' ? 10 : LONGEST_INTERVAL;
        }
    }

    /** The lots and the bins that contain their units. */
    private static final class Goods {
        private int lotCount = 0;
        private final int[] lotItems = new int[MAX_LOTS];
        private final int[] expiries = new int[MAX_LOTS];
        // The lots by their day of expiry, and by their number if it is the same.
        private final int[] lotOrder = new int[MAX_LOTS];
        private final int[][] units = new int[MAX_LOTS][BINS];
        private final int[] lotUnits = new int[MAX_LOTS];
        private final int[] binLoads = new int[BINS];
        private final int[] countedOn = new int[BINS];

        private int appendLot(int item, int expiry) {
            int lot = lotCount;
            lotItems[lot] = item;
            expiries[lot] = expiry;
            int place = lot;
            while (place > 0 && expiries[lotOrder[place - 1]] > expiry) {
                lotOrder[place] = lotOrder[place - 1];
                place--;
            }
            lotOrder[place] = lot;
            lotCount++;
            return lot;
        }

        private void change(int lot, int bin, int difference) {
            units[lot][bin] += difference;
            lotUnits[lot] += difference;
            binLoads[bin] += difference;
        }

        private boolean lasts(int lot, int item, int day) {
            return lotItems[lot] == item && expiries[lot] >= day;
        }

        private int unitsFrom(int item, int day) {
            int sum = 0;
            for (int lot = 0; lot < lotCount; lot++) {
                if (lasts(lot, item, day)) {
                    sum += lotUnits[lot];
                }
            }
            return sum;
        }

        private int unitsBefore(int item, int day) {
            int sum = 0;
            for (int lot = 0; lot < lotCount; lot++) {
                if (lotItems[lot] == item && expiries[lot] < day) {
                    sum += lotUnits[lot];
                }
            }
            return sum;
        }

        private int firstLot(int item, int day) {
            for (int place = 0; place < lotCount; place++) {
                int lot = lotOrder[place];
                if (lasts(lot, item, day) && lotUnits[lot] > 0) {
                    return lot;
                }
            }
            return NONE;
        }

        private int binsWith(int lot) {
            int bins = 0;
            for (int bin = 0; bin < BINS; bin++) {
                if (units[lot][bin] > 0) {
                    bins++;
                }
            }
            return bins;
        }
    }

    /** The promises, whatever their status. */
    private static final class Promises {
        private int size = 0;
        private final int[] dues = new int[MAX_PROMISES];
        private final char[] states = new char[MAX_PROMISES];
        private final int[][] quantities = new int[MAX_PROMISES][MAX_ITEMS];
        // Where the journal has the lines of a promise that was picked.
        private final int[] firstEntries = new int[MAX_PROMISES];
        private final int[] lineCounts = new int[MAX_PROMISES];

        private int append(int due, int[] itemQuantities) {
            int promise = size;
            dues[promise] = due;
            states[promise] = OPEN;
            System.arraycopy(itemQuantities, 0, quantities[promise], 0, MAX_ITEMS);
            size++;
            return promise;
        }

        private boolean isOpenFrom(int promise, int day) {
            return states[promise] == OPEN && dues[promise] >= day;
        }

        private int promisedFrom(int item, int day) {
            int sum = 0;
            for (int promise = 0; promise < size; promise++) {
                if (isOpenFrom(promise, day)) {
                    sum += quantities[promise][item];
                }
            }
            return sum;
        }

        private int lastOpenFor(int item, int day) {
            for (int promise = size - 1; promise >= 0; promise--) {
                if (isOpenFrom(promise, day) && quantities[promise][item] > 0) {
                    return promise;
                }
            }
            return NONE;
        }

        private int sumOf(int promise) {
            int sum = 0;
            for (int item = 0; item < MAX_ITEMS; item++) {
                sum += quantities[promise][item];
            }
            return sum;
        }

        private int lapseBefore(int day) {
            int lapsed = 0;
            for (int promise = 0; promise < size; promise++) {
                if (states[promise] == OPEN && dues[promise] < day) {
                    states[promise] = LAPSED;
                    lapsed++;
                }
            }
            return lapsed;
        }

        private int countIn(char state) {
            int found = 0;
            for (int promise = 0; promise < size; promise++) {
                if (states[promise] == state) {
                    found++;
                }
            }
            return found;
        }
    }

    /** All movements of goods, in the order in which they happened. */
    private static final class Journal {
        private int size = 0;
        private final char[] kinds = new char[MAX_ENTRIES];
        private final int[] lotsMoved = new int[MAX_ENTRIES];
        private final int[] binsFrom = new int[MAX_ENTRIES];
        private final int[] binsTo = new int[MAX_ENTRIES];
        private final int[] quantities = new int[MAX_ENTRIES];
        private final int[] days = new int[MAX_ENTRIES];

        private void write(char kind, int lot, int from, int to, int quantity, int day) {
            if (size >= MAX_ENTRIES) {
                return;
            }
            kinds[size] = kind;
            lotsMoved[size] = lot;
            binsFrom[size] = from;
            binsTo[size] = to;
            quantities[size] = quantity;
            days[size] = day;
            size++;
        }

        private int unitsIn(int lot, int bin) {
            int sum = 0;
            for (int entry = 0; entry < size; entry++) {
                if (lotsMoved[entry] == lot && binsTo[entry] == bin) {
                    sum += quantities[entry];
                }
                if (lotsMoved[entry] == lot && binsFrom[entry] == bin) {
                    sum -= quantities[entry];
                }
            }
            return sum;
        }

        private int unitsAtEndOf(int lot, int day) {
            int sum = 0;
            for (int entry = 0; entry < size; entry++) {
                if (lotsMoved[entry] == lot && days[entry] <= day) {
                    sum += unitsGained(entry);
                }
            }
            return sum;
        }

        private int unitsGained(int entry) {
            int gained = binsTo[entry] == NONE ? 0 : quantities[entry];
            int lost = binsFrom[entry] == NONE ? 0 : quantities[entry];
            return gained - lost;
        }
    }

    /** The pick lines of one promise at a time, and the walks for them. */
    private static final class Lines {
        private int size = 0;
        // Each line takes at least one unit, so that there are no more lines than units in a promise.
        private final int[] bins = new int[MAX_PROMISED];
        private final int[] lots = new int[MAX_PROMISED];
        private final int[] quantities = new int[MAX_PROMISED];

        private void insert(int bin, int lot, int quantity) {
            if (size >= MAX_PROMISED) {
                return;
            }
            int line = size;
            while (line > 0 && isAfter(line - 1, bin, lot)) {
                bins[line] = bins[line - 1];
                lots[line] = lots[line - 1];
                quantities[line] = quantities[line - 1];
                line--;
            }
            bins[line] = bin;
            lots[line] = lot;
            quantities[line] = quantity;
            size++;
        }

        private boolean isAfter(int line, int bin, int lot) {
            if (bins[line] == bin) {
                return lots[line] > lot;
            }
            return alongRoute(bins[line]) > alongRoute(bin);
        }

        private int lastAisle() {
            int last = 0;
            for (int line = 0; line < size; line++) {
                last = Math.max(last, bins[line] / BINS_IN_AISLE);
            }
            return last;
        }

        /** How far the lines of an aisle reach from its front or from its back, 0 if there are none. */
        private int reach(int aisle, boolean fromFront) {
            int farthest = 0;
            for (int line = 0; line < size; line++) {
                if (bins[line] / BINS_IN_AISLE == aisle) {
                    int toFront = bins[line] % BINS_IN_AISLE + 1;
                    farthest = Math.max(farthest, fromFront ? toFront : AISLE_LENGTH - toFront);
                }
            }
            return farthest;
        }

        /** Keeps the shortest ways that have left the aisles so far at the front and at the back. */
        private int shortestWalk() {
            int last = lastAisle();
            int toFront = 0;
            int toBack = UNREACHED;
            for (int aisle = 0; aisle <= last; aisle++) {
                int thenFront = Math.min(toFront + 2 * reach(aisle, true), toBack + AISLE_LENGTH);
                int thenBack = Math.min(toBack + 2 * reach(aisle, false), toFront + AISLE_LENGTH);
                toFront = thenFront;
                toBack = thenBack;
            }
            return toFront + 2 * last * AISLE_DISTANCE;
        }

        private int shortestWalkByTrying() {
            int last = lastAisle();
            int shortest = UNREACHED;
            int choices = 1 << (last + 1);
            for (int choice = 0; choice < choices; choice++) {
                shortest = Math.min(shortest, walkOf(choice, last));
            }
            return shortest;
        }

        /** Each bit of the choice tells of one aisle whether it is left at the other end. */
        private int walkOf(int choice, int last) {
            int length = 2 * last * AISLE_DISTANCE;
            boolean atFront = true;
            for (int aisle = 0; aisle <= last; aisle++) {
                boolean crossed = (choice >> aisle & 1) == 1;
                length += crossed ? AISLE_LENGTH : 2 * reach(aisle, atFront);
                atFront = crossed != atFront;
            }
            return atFront ? length : UNREACHED;
        }
    }
}
