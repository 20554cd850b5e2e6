/** The terms of promises, picking and walks, sentence by sentence. */
public final class TermsPromisesEdgesTest extends Edges {
    public static void main(String[] args) {
        sentences().run(CHECK, "TermsPromisesEdgesTest");
    }

    static Sentences sentences() {
        Sentences all = new Sentences();
        addPromises(all);
        addMaking(all);
        addPicking(all);
        addWalks(all);
        return all;
    }

    private static void addPromises(Sentences all) {
        String stock = "The stock of an item for a day is the number of units in its lots that expire on that day or "
                + "later; what is promised of an item for a day is the sum of the quantities for this item in open "
                + "promises that are due on that day or later.";
        String available = "What is available of an item for a due day is the least difference of the stock and what "
                + "is promised, over all days from the present day to the due day, both included.";
        all.at("Terms")
                .say("What has been promised can be picked in full at any time, until the promise lapses or a count "
                        + "finds too little.", TermsPromisesEdgesTest::promisesInFull)
                .at("Terms, Promises")
                .say("At most 20 promises have the numbers 0 to n - 1 in the order in which they were made.",
                        TermsPromisesEdgesTest::promises20)
                .say("A promise has a due day and a quantity for each item, of which at least one is not 0; "
                        + "it is open at first.", TermsPromisesEdgesTest::promisesOneQuantity)
                .say(stock, TermsPromisesEdgesTest::promisesStock)
                .say(stock, TermsPromisesEdgesTest::promisesPromised)
                .say(available, TermsPromisesEdgesTest::promisesPresentDayIncluded)
                .say(available, TermsPromisesEdgesTest::promisesDueDayIncluded)
                .say(available, TermsPromisesEdgesTest::promisesLeastBetween);
    }

    private static void addMaking(Sentences all) {
        String rest = "If substitutes are allowed, the rest is taken from the substitutes of the item in the same way, "
                + "one after the other, by rising rank, and by rising number if the rank is the same.";
        all.at("Terms, Making a promise")
                .say("A promise of a quantity of an item takes of it as much as is available for the due day, "
                        + "and at most the quantity.", TermsPromisesEdgesTest::makingAtMost)
                .say(rest, TermsPromisesEdgesTest::makingOneAfterTheOther)
                .say(rest, TermsPromisesEdgesTest::makingInTheSameWay)
                .say("If there is still a rest, no promise is made.", TermsPromisesEdgesTest::makingRest);
    }

    private static void addPicking(Sentences all) {
        String quantity = "The quantity for an item is taken from those of its lots that expire on the due day or "
                + "later, in the order of the lots; from the bins of a lot in the order of the route; from each bin as "
                + "much as possible and needed.";
        String numbered = "The pick lines are numbered from 0 in the order of the route, lines in the same bin by the "
                + "number of the lot.";
        String picked = "When the promise is picked, these units leave the bins, and the promise keeps its pick lines.";
        all.at("Terms, Picking")
                .say("The pick lines of an open promise are found as follows.", TermsPromisesEdgesTest::pickingOpen)
                .say(quantity, TermsPromisesEdgesTest::pickingLastItem)
                .say(quantity, TermsPromisesEdgesTest::pickingOnTheDueDayOrLater)
                .say(quantity, TermsPromisesEdgesTest::pickingOrderOfLots)
                .say(quantity, TermsPromisesEdgesTest::pickingOrderOfRoute)
                .say(quantity, TermsPromisesEdgesTest::pickingPossibleAndNeeded)
                .say("Each amount that is taken from a lot in a bin is a pick line.",
                        TermsPromisesEdgesTest::pickingEachAmount)
                .say(numbered, TermsPromisesEdgesTest::pickingNumbers)
                .say(numbered, TermsPromisesEdgesTest::pickingNumbersOfManyLines)
                .say(picked, TermsPromisesEdgesTest::pickingUnitsLeave)
                .say(picked, TermsPromisesEdgesTest::pickingKeepsLines);
    }

    private static void addWalks(Sentences all) {
        String through = "A walk goes through the aisles from 0 to the last one in which there is a line, in this "
                + "order; each of them is entered at one end and left at the same end or at the other one, and an "
                + "aisle in which nothing is picked and that is left at the same end costs nothing.";
        all.at("Terms, Walks")
                .say("A walk for pick lines begins and ends at the front of the aisle 0 and reaches the bins of all "
                        + "lines.", TermsPromisesEdgesTest::walksAllLines)
                .say("An aisle is 11 long from its front to its back; the bin at the position p is p + 1 from the "
                        + "front.", TermsPromisesEdgesTest::walksPositions)
                .say("Neighbouring aisles are 4 apart, along the front and along the back.",
                        TermsPromisesEdgesTest::walksFourApart)
                .say(through, TermsPromisesEdgesTest::walksLastAisle)
                .say(through, TermsPromisesEdgesTest::walksEitherEnd)
                .say(through, TermsPromisesEdgesTest::walksEmptyAisle)
                .say("An aisle that is left at the same end is walked as far as the farthest bin of a line and back.",
                        TermsPromisesEdgesTest::walksFarthestBin)
                .say("In the end, the walk is at the front of the last aisle, and goes back along the front.",
                        TermsPromisesEdgesTest::walksBackAlongTheFront);
    }

    // Promises

    /** Lots that expire on the days 3, 5 and 9, all of them promised, for the days 9, 5, 4, 3 and 0. */
    private static Hall allPromised() {
        Hall hall = Check.hallWith("A");
        hall.receive(0, 4, 9, 39);
        hall.receive(0, 6, 5, 0);
        hall.receive(0, 5, 3, 17);
        hall.promise(0, 3, 9, false);
        hall.promise(0, 4, 5, false);
        hall.promise(0, 2, 4, false);
        hall.promise(0, 4, 3, false);
        hall.promise(0, 2, 0, false);
        same("nothing is left", hall.available(0, 9), 0);
        return hall;
    }

    private static int sumOfLines(Hall hall, int promise) {
        int sum = 0;
        for (int line = 0; line < hall.pickLines(promise); line++) {
            sum += hall.pickQuantity(promise, line);
        }
        return sum;
    }

    /** In each order in which five promises can be picked; and on its last day each can still be picked. */
    private static void promisesInFull() {
        for (int order = 0; order < 120; order++) {
            Hall hall = allPromised();
            int left = order;
            for (int waiting = 5; waiting > 0; waiting--) {
                int promise = openOne(hall, left % waiting);
                left /= waiting;
                same("the units of the lines", sumOfLines(hall, promise), hall.quantity(promise, 0));
                hall.pick(promise);
            }
            same("statuses", statuses(hall, 5), "ppppp");
            same("nothing is left", hall.onHand(0), 0);
        }
        Hall late = allPromised();
        late.pick(4);
        int[] dues = {3, 4, 5, 9};
        for (int i = 0; i < dues.length; i++) {
            late.pass(dues[i] - late.day());
            same("on the last day", sumOfLines(late, 3 - i), late.quantity(3 - i, 0));
            late.pick(3 - i);
        }
        same("statuses on the day 9", statuses(late, 5), "ppppp");
        Hall counted = allPromised();
        counted.count(39, 0, 3);
        same("a count finds too little", statuses(counted, 5), "oooob");
        Hall lapsed = allPromised();
        lapsed.pass(1);
        same("a promise lapses", Check.outcome(() -> lapsed.pick(4)), "IllegalStateException");
    }

    private static int openOne(Hall hall, int skipped) {
        int promise = 0;
        int left = skipped;
        while (hall.status(promise) != 'o' || left > 0) {
            left -= hall.status(promise) == 'o' ? 1 : 0;
            promise++;
        }
        return promise;
    }

    private static void promises20() {
        Hall hall = Check.hallWith("A");
        hall.receive(0, 30, 50, 0);
        for (int promise = 0; promise < 20; promise++) {
            int next = promise;
            same("before it is made", Check.outcome(() -> hall.status(next)), "IndexOutOfBoundsException");
            same("the number", hall.promise(0, 1, 40 - promise, false), promise);
            same("when it was made", hall.status(promise), 'o');
        }
        same("a 21st", Check.outcome(() -> hall.promise(0, 1, 20, false)), "IllegalStateException");
        same("its number", Check.outcome(() -> hall.status(20)), "IndexOutOfBoundsException");
    }

    private static void promisesOneQuantity() {
        Hall hall = Check.hallWith("ABC");
        hall.addSubstitute(0, 2, 1);
        hall.receive(2, 1, 50, 0);
        same("of a substitute only", hall.promise(0, 1, 20, true), 0);
        same("the quantities", quantities(hall, 0, 3), "0 0 1");
        same("the status", hall.status(0), 'o');
        same("of nothing", Check.outcome(() -> hall.promise(0, 0, 20, true)), "IllegalArgumentException");
    }

    private static void available(Hall hall, int due, int units) {
        same("available(0, " + due + ")", hall.available(0, due), units);
        same("availableByTrying(0, " + due + ")", hall.availableByTrying(0, due), units);
    }

    private static void promisesStock() {
        Hall hall = Check.hallWith("AB");
        hall.receive(0, 5, 7, 0);
        hall.receive(0, 3, 8, 0);
        hall.receive(1, 9, 60, 0);
        available(hall, 6, 8);
        available(hall, 7, 8);
        available(hall, 8, 3);
        available(hall, 9, 0);
    }

    private static void promisesPromised() {
        Hall hall = Check.hallWith("AB");
        hall.addSubstitute(1, 0, 1);
        hall.receive(0, 20, 60, 0);
        hall.receive(1, 1, 60, 1);
        hall.promise(0, 2, 7, false);
        hall.promise(0, 3, 8, false);
        hall.promise(1, 5, 9, true);
        available(hall, 0, 11);
        hall.cancel(0);
        available(hall, 0, 13);
        hall.pick(1);
        available(hall, 0, 13);
        hall.count(1, 1, 0);
        available(hall, 0, 17);
        hall.promise(0, 4, 0, false);
        available(hall, 0, 13);
        available(hall, 60, 13);
        hall.pass(1);
        available(hall, 1, 17);
    }

    private static void promisesPresentDayIncluded() {
        Hall hall = Check.hallWith("A");
        hall.receive(0, 9, 60, 0);
        hall.promise(0, 4, 0, false);
        available(hall, 0, 5);
        available(hall, 60, 5);
        hall.pass(1);
        available(hall, 1, 9);
        hall.promise(0, 9, 1, false);
        available(hall, 1, 0);
        available(hall, 2, 0);
        hall.pass(1);
        available(hall, 2, 9);
    }

    private static void promisesDueDayIncluded() {
        Hall hall = Check.hallWith("A");
        hall.receive(0, 5, 20, 0);
        hall.receive(0, 2, 21, 0);
        available(hall, 20, 7);
        available(hall, 21, 2);
        available(hall, 22, 0);
        Hall only = Check.hallWith("A");
        only.receive(0, 4, 0, 0);
        available(only, 0, 4);
        available(only, 1, 0);
        Hall sixty = Check.hallWith("A");
        sixty.receive(0, 4, 60, 0);
        sixty.receive(0, 3, 59, 0);
        available(sixty, 59, 7);
        available(sixty, 60, 4);
        sixty.pass(1);
        available(sixty, 60, 4);
        available(sixty, 61, 0);
    }

    private static void promisesLeastBetween() {
        Hall hall = Check.hallWith("A");
        hall.receive(0, 10, 9, 0);
        hall.receive(0, 10, 19, 0);
        hall.promise(0, 9, 15, false);
        hall.promise(0, 1, 3, false);
        available(hall, 3, 10);
        available(hall, 9, 10);
        available(hall, 10, 1);
        available(hall, 15, 1);
        available(hall, 16, 1);
        available(hall, 19, 1);
        available(hall, 20, 0);
        hall.promise(0, 10, 9, false);
        available(hall, 0, 0);
        available(hall, 19, 0);
    }

    // Making a promise

    private static Hall substitutes() {
        Hall hall = Check.hallWith("ABCABC");
        hall.addSubstitute(0, 5, 2);
        hall.addSubstitute(0, 4, 1);
        hall.addSubstitute(0, 1, 2);
        hall.receive(0, 4, 20, 0);
        hall.receive(1, 3, 20, 1);
        hall.receive(3, 9, 20, 3);
        hall.receive(4, 2, 20, 4);
        hall.receive(5, 5, 20, 5);
        return hall;
    }

    private static void makingAtMost() {
        for (boolean allowed : new boolean[] {false, true}) {
            Hall hall = substitutes();
            hall.promise(0, 3, 10, allowed);
            same("less than is available", quantities(hall, 0, 6), "3 0 0 0 0 0");
            hall.cancel(0);
            hall.promise(0, 4, 10, allowed);
            same("as much as is available", quantities(hall, 1, 6), "4 0 0 0 0 0");
        }
        Hall hall = substitutes();
        hall.promise(0, 5, 10, true);
        same("one more than is available", quantities(hall, 0, 6), "4 0 0 0 1 0");
    }

    private static void makingOneAfterTheOther() {
        String[] due = {"4 0 0 0 0 0", "4 0 0 0 1 0", "4 0 0 0 2 0", "4 1 0 0 2 0", "4 2 0 0 2 0", "4 3 0 0 2 0",
            "4 3 0 0 2 1", "4 3 0 0 2 2", "4 3 0 0 2 3", "4 3 0 0 2 4", "4 3 0 0 2 5"};
        for (int more = 0; more < due.length; more++) {
            Hall hall = substitutes();
            hall.promise(0, 4 + more, 20, true);
            same("a promise of " + (4 + more), quantities(hall, 0, 6), due[more]);
        }
        Hall hall = substitutes();
        same("more than all", Check.outcome(() -> hall.promise(0, 15, 20, true)), "UnsupportedOperationException");
        same("not allowed", Check.outcome(() -> hall.promise(0, 5, 20, false)), "UnsupportedOperationException");
    }

    private static void makingInTheSameWay() {
        Hall hall = substitutes();
        hall.receive(1, 8, 9, 7);
        hall.promise(4, 1, 15, false);
        hall.promise(0, 8, 10, true);
        same("as much as is available for the due day", quantities(hall, 1, 6), "4 3 0 0 1 0");
        hall.promise(0, 6, 9, true);
        same("for an earlier day there is more", quantities(hall, 2, 6), "0 6 0 0 0 0");
    }

    private static void makingRest() {
        Scene scene = TermsPromisesEdgesTest::substitutes;
        refuses(scene, UNSUPPORTED, "a rest of one", hall -> hall.promise(0, 15, 20, true));
        refuses(scene, UNSUPPORTED, "all is a rest", hall -> hall.promise(2, 1, 20, true));
        refuses(scene, UNSUPPORTED, "a day too late", hall -> hall.promise(0, 1, 21, true));
        Hall hall = substitutes();
        same("a rest", Check.outcome(() -> hall.promise(0, 60, 20, true)), "UnsupportedOperationException");
        same("the first promise is still to come", hall.promise(0, 14, 20, true), 0);
    }

    // Picking

    private static void pickingOpen() {
        Hall hall = Check.hallWith("A");
        hall.receive(0, 3, 9, 5);
        hall.promise(0, 3, 9, false);
        same("at first", lines(hall, 0), "5/0/3");
        hall.move(0, 5, 4, 1);
        same("its goods were moved", lines(hall, 0), "4/0/1 5/0/2");
        hall.count(30, 0, 3);
        hall.count(4, 0, 0);
        same("more was found elsewhere", lines(hall, 0), "5/0/2 30/0/1");
        for (int promise : new int[] {2, 3, 4}) {
            refuses(Edges::allStatuses, STATE, "not open", h -> h.pickLines(promise));
        }
    }

    /** One lot only, of the item with the highest number. */
    private static void pickingLastItem() {
        Hall hall = Check.hallWith("ABCABC");
        hall.receive(5, 3, 9, 5);
        hall.promise(5, 2, 9, false);
        same("the line", lines(hall, 0), "5/0/2");
        same("the walk", hall.walk(0), 12);
        same("picked", hall.pick(0), 1);
        same("what is left", hall.stock(0, 5), 1);
    }

    private static void pickingOnTheDueDayOrLater() {
        Hall hall = Check.hallWith("A");
        hall.receive(0, 5, 6, 0);
        hall.receive(0, 5, 7, 1);
        hall.receive(0, 5, 8, 2);
        hall.promise(0, 1, 7, false);
        same("not from the lot of the day before", lines(hall, 0), "1/1/1");
        hall.promise(0, 1, 6, false);
        same("from the lot of the due day", lines(hall, 1), "0/0/1");
        hall.promise(0, 1, 8, false);
        same("from the lot of the last day", lines(hall, 2), "2/2/1");
    }

    private static void pickingOrderOfLots() {
        Hall hall = Check.hallWith("A");
        hall.receive(0, 2, 20, 0);
        hall.receive(0, 2, 10, 30);
        hall.receive(0, 2, 10, 20);
        hall.promise(0, 1, 5, false);
        same("one", lines(hall, 0), "30/1/1");
        hall.cancel(0);
        hall.promise(0, 3, 5, false);
        same("three", lines(hall, 1), "20/2/1 30/1/2");
        hall.cancel(1);
        hall.promise(0, 5, 5, false);
        same("five", lines(hall, 2), "0/0/1 20/2/2 30/1/2");
    }

    private static void pickingOrderOfRoute() {
        Hall hall = Check.hallWith("A");
        hall.receive(0, 10, 20, 10);
        for (int bin : new int[] {19, 30, 39, 9}) {
            hall.move(0, 10, bin, 2);
        }
        String[] due = {"9/0/1", "9/0/2", "9/0/2 19/0/1", "9/0/2 19/0/2", "9/0/2 19/0/2 10/0/1",
            "9/0/2 19/0/2 10/0/2", "9/0/2 19/0/2 10/0/2 39/0/1", "9/0/2 19/0/2 10/0/2 39/0/2",
            "9/0/2 19/0/2 10/0/2 39/0/2 30/0/1", "9/0/2 19/0/2 10/0/2 39/0/2 30/0/2"};
        for (int units = 1; units <= 10; units++) {
            hall.promise(0, units, 5, false);
            same("a promise of " + units, lines(hall, units - 1), due[units - 1]);
            hall.cancel(units - 1);
        }
    }

    private static void pickingPossibleAndNeeded() {
        Hall hall = Check.hallWith("A");
        hall.receive(0, 30, 20, 7);
        hall.receive(0, 30, 20, 6);
        int[] promised = {1, 29, 30, 31, 59, 60};
        String[] due = {"7/0/1", "7/0/29", "7/0/30", "6/1/1 7/0/30", "6/1/29 7/0/30", "6/1/30 7/0/30"};
        for (int i = 0; i < promised.length; i++) {
            hall.promise(0, promised[i], 5, false);
            same("a promise of " + promised[i], lines(hall, i), due[i]);
            hall.cancel(i);
        }
    }

    private static void pickingEachAmount() {
        Hall hall = Check.hallWith("AB");
        hall.addSubstitute(0, 1, 1);
        hall.receive(0, 2, 20, 5);
        hall.receive(0, 2, 20, 5);
        hall.receive(1, 2, 20, 5);
        hall.move(0, 5, 6, 1);
        hall.promise(0, 5, 5, true);
        same("one lot in two bins, three lots in one", lines(hall, 0), "5/0/1 5/1/2 5/2/1 6/0/1");
        same("a bin without units of the lot is no line", hall.pickLines(0), 4);
    }

    private static void pickingNumbers() {
        Hall hall = Check.hallWith("AB");
        hall.addSubstitute(1, 0, 1);
        hall.receive(0, 2, 20, 14);
        hall.receive(1, 2, 30, 14);
        hall.receive(1, 2, 10, 14);
        hall.receive(0, 2, 5, 15);
        hall.promise(1, 8, 5, true);
        same("by the route, then by the lot", lines(hall, 0), "15/3/2 14/0/2 14/1/2 14/2/2");
        same("no line before 0", Check.outcome(() -> hall.pickBin(0, -1)), "NoSuchElementException");
        same("no line behind the last", Check.outcome(() -> hall.pickBin(0, 4)), "NoSuchElementException");
    }

    /** 24 lots of two units, in five bins in turn; the last one of them is taken from first. */
    private static void pickingNumbersOfManyLines() {
        int[] bins = {39, 12, 0, 17, 20};
        Hall hall = Check.hallWith("A");
        for (int lot = 0; lot < 24; lot++) {
            hall.receive(0, 2, 99 - lot, bins[lot % 5]);
        }
        hall.promise(0, 48, 60, false);
        StringBuilder due = new StringBuilder();
        for (int turn : new int[] {2, 3, 1, 4, 0}) {
            for (int lot = turn; lot < 24; lot += 5) {
                due.append(due.length() == 0 ? "" : " ").append(bins[turn]).append('/').append(lot).append("/2");
            }
        }
        same("open", lines(hall, 0), due.toString());
        hall.pick(0);
        same("picked", lines(hall, 0), due.toString());
    }

    private static void pickingUnitsLeave() {
        Hall hall = Check.hallWith("A");
        hall.receive(0, 5, 20, 14);
        hall.receive(0, 5, 10, 3);
        hall.promise(0, 6, 5, false);
        same("before", hall.load(14) + " " + hall.load(3), "5 5");
        hall.pick(0);
        same("afterwards", hall.load(14) + " " + hall.load(3), "4 0");
        same("stocks", hall.stock(0, 14) + " " + hall.stock(1, 3), "4 0");
        same("by the journal", hall.stockByJournal(0, 14) + " " + hall.stockByJournal(1, 3), "4 0");
        same("the empty bin", Check.outcome(() -> hall.countDay(3)), "NoSuchElementException");
    }

    private static void pickingKeepsLines() {
        Hall hall = Check.hallWith("A");
        hall.receive(0, 5, 20, 14);
        hall.receive(0, 5, 10, 3);
        hall.promise(0, 6, 5, false);
        hall.promise(0, 1, 5, false);
        hall.pick(0);
        hall.pick(1);
        hall.receive(0, 5, 4, 0);
        hall.count(14, 0, 0);
        hall.count(3, 1, 9);
        hall.pass(30);
        hall.dispose(1);
        same("of the first", lines(hall, 0), "3/1/5 14/0/1");
        same("of the second", lines(hall, 1), "14/0/1");
    }

    // Walks

    private static void walk(int due, int... bins) {
        Hall hall = Check.hallWith("A");
        hall.receive(0, bins.length, 20, bins[0]);
        for (int i = 1; i < bins.length; i++) {
            hall.move(0, bins[0], bins[i], 1);
        }
        hall.promise(0, bins.length, 5, false);
        StringBuilder what = new StringBuilder("the walk to");
        for (int bin : bins) {
            what.append(' ').append(bin);
        }
        same("lines", hall.pickLines(0), bins.length);
        same(what.toString(), hall.walk(0), due);
        same(what + " by trying", hall.walkByTrying(0), due);
    }

    private static void walksAllLines() {
        walk(2, 0);
        walk(4, 0, 1);
        walk(20, 0, 1, 9);
        walk(20 + 8 + 2, 9, 10);
        walk(24 + 2 + 2 + 2 + 2, 0, 10, 20, 30);
        walk(24 + 44, 0, 9, 10, 19, 20, 29, 30, 39);
        Hall hall = Check.hallWith("A");
        hall.receive(0, 1, 20, 0);
        for (int bin = 1; bin < 40; bin++) {
            hall.count(bin, 0, 1);
        }
        hall.promise(0, 40, 5, false);
        same("all bins", hall.walk(0), 68);
        same("all bins by trying", hall.walkByTrying(0), 68);
    }

    private static void walksPositions() {
        for (int position = 0; position < 10; position++) {
            walk(2 * (position + 1), position);
            // From the back, beside two aisles that are walked across.
            walk(22 + 16 + 2 * (10 - position), 0, 9, 10 + position, 20, 29);
        }
    }

    private static void walksFourApart() {
        walk(8 + 2, 10);
        walk(16 + 2, 20);
        walk(24 + 2, 30);
        walk(4 + 4 + 22, 9, 19);
        walk(8 + 8 + 22, 9, 29);
        walk(12 + 12 + 22, 9, 39);
    }

    private static void walksLastAisle() {
        walk(20, 9);
        walk(20, 4, 9);
        walk(8 + 20, 19);
        walk(16 + 20, 29);
        walk(24 + 20, 39);
    }

    private static void walksEitherEnd() {
        walk(22 + 8, 9, 19);
        walk(20 + 8 + 2, 9, 10);
        walk(22 + 16 + 2, 9, 19, 29);
        walk(22 + 24 + 2 + 2, 9, 19, 29, 39);
        // Four aisles are walked across, as each has lines at both of its ends.
        walk(44 + 24, 0, 9, 10, 19, 20, 29, 30, 39);
        walk(22 + 2 + 24, 9, 19, 30);
    }

    private static void walksEmptyAisle() {
        walk(2 + 2 + 24, 0, 30);
        walk(22 + 16, 9, 29);
        walk(22 + 24, 9, 39);
        walk(22 + 2 + 24, 9, 29, 39);
        walk(22 + 2 + 24, 9, 19, 39);
        walk(2 + 22 + 24, 0, 19, 39);
        // No aisle before the last one has a line.
        walk(20 + 24, 39);
    }

    private static void walksFarthestBin() {
        walk(8, 0, 3);
        walk(8, 0, 1, 2, 3);
        walk(20, 0, 3, 9);
        walk(22 + 16 + 10, 9, 18, 15, 29);
        walk(22 + 16 + 10, 9, 15, 16, 17, 29);
        walk(22 + 16 + 12, 9, 14, 29);
        walk(22 + 16 + 12, 9, 19, 14, 29);
    }

    private static void walksBackAlongTheFront() {
        walk(24 + 20, 39);
        walk(24 + 20 + 2, 0, 39);
        walk(16 + 22 + 2, 9, 19, 29);
        walk(24 + 22 + 2 + 2, 9, 19, 29, 39);
        walk(24 + 22 + 4, 9, 28, 39);
    }
}
