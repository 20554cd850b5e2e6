/** The terms of items, bins, lots, counts, days and the journal, sentence by sentence. */
public final class TermsGoodsEdgesTest extends Edges {
    private static final int[] ROUTE = {0, 1, 2, 3, 4, 5, 6, 7, 8, 9, 19, 18, 17, 16, 15, 14, 13, 12, 11, 10,
            20, 21, 22, 23, 24, 25, 26, 27, 28, 29, 39, 38, 37, 36, 35, 34, 33, 32, 31, 30};

    public static void main(String[] args) {
        sentences().run(CHECK, "TermsGoodsEdgesTest");
    }

    static Sentences sentences() {
        Sentences all = new Sentences();
        addItemsAndBins(all);
        addLots(all);
        addCounting(all);
        addDays(all);
        addJournal(all);
        return all;
    }

    private static void addItemsAndBins(Sentences all) {
        String item = "An item has a category 'A', 'B' or 'C', and substitutes, which are other items with a rank from "
                + "1 to 9; the same rank may be given twice.";
        all.at("What it is")
                .say("An object is used for at most 512 calls after it has been made; what later calls answer is free.",
                        TermsGoodsEdgesTest::whatItIsLastCall)
                .at("Terms, Items and bins")
                .say("At most 6 items have the numbers 0 to n - 1 in the order in which they were added.",
                        TermsGoodsEdgesTest::itemsSix)
                .say(item, TermsGoodsEdgesTest::itemsRanks)
                .say(item, TermsGoodsEdgesTest::itemsSameRank)
                .say("There are 40 bins, numbered from 0; a bin is in the aisle number / 10, rounded down, "
                        + "at the position number % 10.", TermsGoodsEdgesTest::itemsBins)
                .say("A bin contains at most 30 units, of any lots.", TermsGoodsEdgesTest::itemsThirtyUnits)
                .say("The route visits the bins aisle by aisle, in aisles with an even number by rising positions, "
                        + "in the others by falling ones.", TermsGoodsEdgesTest::itemsRoute);
    }

    private static void addLots(Sentences all) {
        all.at("Terms, Lots")
                .say("At most 24 lots have the numbers 0 to n - 1 in the order in which they were received.",
                        TermsGoodsEdgesTest::lots24)
                .say("A lot has an item and a day of expiry; it is expired when that day is less than the present day.",
                        TermsGoodsEdgesTest::lotsExpired)
                .say("The units of a lot may be in several bins.", TermsGoodsEdgesTest::lotsSeveralBins)
                .say("Lots of an item are ordered by the day of expiry, lots with the same one by their number.",
                        TermsGoodsEdgesTest::lotsOrder);
    }

    private static void addCounting(Sentences all) {
        String counted = "When a lot is counted in a bin, its quantity there becomes what was found, and the bin "
                + "counts as counted on the present day; at first, each bin counts as counted on the day 0.";
        String broken = "As long as there is a day, not less than the present one, for which the stock of the item of "
                + "this lot is less than what is promised of it, the greatest such day is taken, and of the open "
                + "promises that are due on it or later and have a quantity for this item, the one with the highest "
                + "number is broken.";
        String due = "The count of a bin is due on the day on which it was counted last plus the least interval of the "
                + "items in it: 5 days for the category 'A', 10 for 'B' and 20 for 'C'.";
        all.at("Terms, Counting")
                .say(counted, TermsGoodsEdgesTest::countingQuantity)
                .say(counted, TermsGoodsEdgesTest::countingPresentDay)
                .say(counted, TermsGoodsEdgesTest::countingDayZero)
                .say(counted, TermsGoodsEdgesTest::countingByNoOtherCall)
                .say(broken, TermsGoodsEdgesTest::countingAsLongAs)
                .say(broken, TermsGoodsEdgesTest::countingDaysFromThePresentOne)
                .say(broken, TermsGoodsEdgesTest::countingGreatestDay)
                .say(broken, TermsGoodsEdgesTest::countingDueOnItOrLater)
                .say(broken, TermsGoodsEdgesTest::countingThisItem)
                .say(broken, TermsGoodsEdgesTest::countingHighestNumber)
                .say(due, TermsGoodsEdgesTest::countingIntervals)
                .say(due, TermsGoodsEdgesTest::countingLeastInterval)
                .say("Nothing is due for an empty bin.", TermsGoodsEdgesTest::countingEmptyBin);
    }

    private static void addDays(Sentences all) {
        all.at("Terms, Days")
                .say("The present day is 0 at first.", TermsGoodsEdgesTest::daysZero)
                .say("When a day begins, open promises whose due day is less than it lapse.",
                        TermsGoodsEdgesTest::daysLapse);
    }

    private static void addJournal(Sentences all) {
        String entry = "An entry has a kind, a lot, a bin from which units came and one into which they went, each of "
                + "them -1 if there is none, a quantity and a day.";
        String kinds = "Receiving makes an entry 'r'; moving 'm'; each pick line 'p', in the order of the lines; "
                + "disposing 'd', one for each bin that has units of the lot, in the order of the route.";
        all.at("Terms, Journal")
                .say("The journal has at most 150 entries, numbered from 0.", TermsGoodsEdgesTest::journal150)
                .say(entry, TermsGoodsEdgesTest::journalEntry)
                .say(kinds, TermsGoodsEdgesTest::journalPickLines)
                .say(kinds, TermsGoodsEdgesTest::journalDisposing)
                .say("A count whose result differs from the quantity before makes an entry 'c' with the absolute "
                        + "difference as its quantity, into the bin if more was found, from the bin if less was.",
                        TermsGoodsEdgesTest::journalCount)
                .at("Terms")
                .say("All movements are kept in a journal, from which stocks are found a second time.",
                        TermsGoodsEdgesTest::journalStocks)
                .at("Terms, Exceptions")
                .say("A method that throws an exception changes nothing.",
                        TermsGoodsEdgesTest::exceptionsChangeNothing);
    }

    /** Just 512 calls on one object. */
    private static void whatItIsLastCall() {
        Hall hall = new Hall();
        hall.addItem('A');
        for (int call = 2; call <= 508; call++) {
            hall.pass(30);
        }
        same("call 509", hall.receive(0, 30, 15309, 0), 0);
        same("call 510", hall.promise(0, 30, 15270, false), 0);
        same("call 511", hall.pick(0), 1);
        same("call 512", hall.day(), 15210);
        Hall refused = new Hall();
        for (int call = 1; call <= 511; call++) {
            same("a refused call", Check.outcome(() -> refused.pass(0)), "IllegalArgumentException");
        }
        same("call 512 after refused ones", refused.addItem('C'), 0);
    }

    // Items and bins

    private static void itemsSix() {
        Hall hall = new Hall();
        for (int item = 0; item < 6; item++) {
            int next = item;
            same("before it is added", Check.outcome(() -> hall.onHand(next)), "IndexOutOfBoundsException");
            same("the number", hall.addItem('C'), item);
            same("when it was added", hall.onHand(item), 0);
        }
        same("a seventh", Check.outcome(() -> hall.addItem('A')), "IllegalStateException");
        same("its number", Check.outcome(() -> hall.onHand(6)), "IndexOutOfBoundsException");
    }

    /** The item 0, and five substitutes with these ranks, each with one unit. */
    private static Hall ranked(int... ranks) {
        Hall hall = Check.hallWith("ABCABC");
        for (int other = 1; other < 6; other++) {
            hall.addSubstitute(0, other, ranks[other - 1]);
            hall.receive(other, 1, 50, other);
        }
        return hall;
    }

    /** The substitutes in the order in which promises of one unit take them. */
    private static String orderOf(Hall hall) {
        StringBuilder order = new StringBuilder();
        for (int promise = 0; promise < 5; promise++) {
            hall.promise(0, 1, 20, true);
            order.append(quantities(hall, promise, 6).replace(" ", "").indexOf('1'));
        }
        return order.toString();
    }

    private static void itemsRanks() {
        same("rank 9 before rank 10", Check.outcome(() -> ranked(9, 10, 1, 1, 1)), "IllegalArgumentException");
        same("rank 0", Check.outcome(() -> ranked(1, 0, 1, 1, 1)), "IllegalArgumentException");
        same("from 1 to 9", orderOf(ranked(9, 8, 5, 2, 1)), "54321");
        same("1 and 9 at the ends", orderOf(ranked(5, 9, 4, 1, 6)), "43152");
    }

    private static void itemsSameRank() {
        same("all by 1", orderOf(ranked(1, 1, 1, 1, 1)), "12345");
        same("all by 9", orderOf(ranked(9, 9, 9, 9, 9)), "12345");
        same("two by 3", orderOf(ranked(9, 3, 9, 3, 3)), "24513");
        Hall hall = Check.hallWith("ABC");
        same("the higher number first", hall.addSubstitute(0, 2, 4), 1);
        same("the same rank again", hall.addSubstitute(0, 1, 4), 2);
    }

    /** One unit in the bin, and a promise of it. */
    private static Hall unitIn(int bin) {
        Hall hall = Check.hallWith("A");
        hall.receive(0, 1, 50, bin);
        hall.promise(0, 1, 20, false);
        return hall;
    }

    private static void itemsBins() {
        for (int bin = 0; bin < 40; bin++) {
            int aisle = bin < 10 ? 0 : bin < 20 ? 1 : bin < 30 ? 2 : 3;
            int position = bin - 10 * aisle;
            same("the walk to the bin " + bin, unitIn(bin).walk(0), 8 * aisle + 2 * (position + 1));
        }
        for (int wrong : new int[] {-1, 40}) {
            refuses(() -> Check.hallWith("A"), INDEX, "bin " + wrong, hall -> hall.receive(0, 1, 50, wrong));
            refuses(() -> Check.hallWith("A"), INDEX, "bin " + wrong, hall -> hall.load(wrong));
        }
    }

    private static void itemsThirtyUnits() {
        Hall hall = Check.hallWith("AB");
        for (int lot = 0; lot < 20; lot++) {
            hall.receive(lot % 2, 1, 50, 5);
        }
        hall.count(5, 7, 10);
        same("29 units of twenty lots", hall.load(5), 29);
        hall.receive(0, 1, 60, 5);
        same("30 units", hall.load(5), 30);
        hall.receive(1, 1, 60, 6);
        String refused = "UnsupportedOperationException";
        same("received", Check.outcome(() -> hall.receive(0, 1, 60, 5)), refused);
        same("moved", Check.outcome(() -> hall.move(21, 6, 5, 1)), refused);
        same("counted", Check.outcome(() -> hall.count(5, 3, 2)), refused);
        same("still 30 units", hall.load(5), 30);
        hall.count(5, 3, 0);
        same("one was missing, one is moved there", hall.move(21, 6, 5, 1), 1);
        same("30 units again", hall.load(5), 30);
    }

    /** A unit in each bin; the lot 0 is in all of them. */
    private static Hall fortyUnits() {
        Hall hall = Check.hallWith("A");
        hall.receive(0, 1, 0, 13);
        for (int bin = 39; bin >= 0; bin--) {
            hall.count(bin, 0, 1);
        }
        return hall;
    }

    private static void itemsRoute() {
        Hall hall = fortyUnits();
        hall.promise(0, 40, 0, false);
        for (int line = 0; line < 40; line++) {
            same("the bin of the line " + line, hall.pickBin(0, line), ROUTE[line]);
        }
        hall.cancel(0);
        for (int units = 1; units <= 19; units++) {
            hall.promise(0, units, 0, false);
            same("the last bin for " + units, hall.pickBin(units, units - 1), ROUTE[units - 1]);
            hall.cancel(units);
        }
    }

    // Lots

    private static void lots24() {
        Hall hall = Check.hallWith("AB");
        for (int lot = 0; lot < 24; lot++) {
            int next = lot;
            same("before it is received", Check.outcome(() -> hall.stock(next, 39)), "IndexOutOfBoundsException");
            same("the number", hall.receive((lot + 1) % 2, 1, 50 - lot, 39), lot);
            same("when it was received", hall.stock(lot, 39), 1);
        }
        same("a 25th", Check.outcome(() -> hall.receive(0, 1, 50, 0)), "IllegalStateException");
        same("its number", Check.outcome(() -> hall.stock(24, 39)), "IndexOutOfBoundsException");
    }

    private static void lotsExpired() {
        Hall hall = Check.hallWith("A");
        hall.receive(0, 3, 7, 0);
        hall.pass(7);
        same("on hand on its day", hall.onHand(0), 3);
        same("expired on its day", hall.expired(0), 0);
        same("disposing on its day", Check.outcome(() -> hall.dispose(0)), "UnsupportedOperationException");
        same("available on its day", hall.available(0, 7), 3);
        hall.pass(1);
        same("on hand a day later", hall.onHand(0), 0);
        same("expired a day later", hall.expired(0), 3);
        same("available a day later", hall.available(0, 8), 0);
        same("disposing a day later", hall.dispose(0), 3);
        Hall first = Check.hallWith("A");
        first.receive(0, 3, 0, 0);
        same("on the day 0, expired on the day 0", first.expired(0), 0);
    }

    private static void lotsSeveralBins() {
        Hall hall = fortyUnits();
        for (int bin = 0; bin < 40; bin++) {
            same("stock", hall.stock(0, bin), 1);
        }
        same("on hand", hall.onHand(0), 40);
        hall.move(0, 39, 0, 1);
        same("39 bins", hall.stock(0, 39), 0);
        same("two in one of them", hall.stock(0, 0), 2);
    }

    private static void lotsOrder() {
        Hall hall = Check.hallWith("AB");
        int[] expiries = {20, 10, 20, 9, 10, 11, 9};
        for (int lot = 0; lot < expiries.length; lot++) {
            hall.receive(0, 1, expiries[lot], 30 - lot);
        }
        hall.receive(1, 1, 0, 0);
        int[] order = {3, 6, 1, 4, 5, 0, 2};
        for (int lot : order) {
            same("the next lot", hall.nextLot(0, 0), lot);
            hall.pick(hall.promise(0, 1, 0, false));
            same("it was picked", hall.stock(lot, 30 - lot), 0);
        }
    }

    // Counting

    private static void countingQuantity() {
        for (int found = 0; found <= 30; found++) {
            Hall hall = Check.hallWith("A");
            hall.receive(0, 15, 50, 3);
            hall.count(3, 0, found);
            same("stock", hall.stock(0, 3), found);
            same("load", hall.load(3), found);
            same("on hand", hall.onHand(0), found);
            same("by the journal", hall.stockByJournal(0, 3), found);
        }
    }

    private static void countingPresentDay() {
        Hall hall = Check.hallWith("AC");
        hall.receive(0, 5, 50, 3);
        hall.receive(1, 5, 50, 4);
        hall.pass(3);
        hall.count(3, 0, 5);
        same("the same number found", hall.countDay(3), 8);
        same("another bin was not counted", hall.countDay(4), 20);
        hall.pass(1);
        hall.count(4, 0, 0);
        same("none found of a lot that was not there", hall.countDay(4), 24);
        hall.pass(1);
        hall.count(20, 0, 0);
        hall.pass(1);
        hall.move(0, 3, 20, 1);
        same("the bin was empty when it was counted", hall.countDay(20), 10);
        same("moving is no count", hall.countDay(3), 8);
        same("refused", Check.outcome(() -> hall.count(3, 0, 31)), "IllegalArgumentException");
        same("a refused count is none", hall.countDay(3), 8);
        hall.count(3, 0, 4);
        same("once more", hall.countDay(3), 11);
    }

    private static void countingDayZero() {
        for (int bin = 0; bin < 40; bin++) {
            Hall hall = Check.hallWith("A");
            hall.pass(30);
            hall.receive(0, 1, 50, bin);
            same("received on the day 30", hall.countDay(bin), 5);
            same("due long ago", hall.countsDue(), 1);
        }
    }

    private static void countingByNoOtherCall() {
        Hall hall = Check.hallWith("A");
        hall.receive(0, 9, 50, 3);
        hall.receive(0, 2, 4, 3);
        hall.pass(2);
        hall.count(3, 0, 9);
        hall.pass(1);
        hall.receive(0, 5, 50, 3);
        same("receiving", hall.countDay(3), 7);
        hall.move(0, 3, 20, 1);
        same("moving from the bin", hall.countDay(3), 7);
        same("moving to a bin", hall.countDay(20), 5);
        hall.promise(0, 1, 5, false);
        same("promising", hall.countDay(3), 7);
        hall.pick(0);
        same("picking", hall.countDay(3), 7);
        hall.pass(2);
        same("a day", hall.countDay(3), 7);
        hall.dispose(1);
        same("disposing", hall.countDay(3), 7);
        hall.count(20, 0, 1);
        same("counting the lot in another bin", hall.countDay(3), 7);
        hall.move(0, 3, 30, 7);
        hall.move(2, 3, 30, 5);
        same("the bin is empty", Check.outcome(() -> hall.countDay(3)), "NoSuchElementException");
        hall.move(0, 30, 3, 1);
        same("it was empty in between", hall.countDay(3), 7);
    }

    /** 10 units that last to the day 90, and so many promises of one unit, due on the day 20. */
    private static Hall promised(int promises) {
        Hall hall = Check.hallWith("A");
        hall.receive(0, 10, 90, 7);
        for (int promise = 0; promise < promises; promise++) {
            hall.promise(0, 1, 20, false);
        }
        return hall;
    }

    private static void countingAsLongAs() {
        accepts(() -> promised(6), 0, "as many as are promised", hall -> hall.count(7, 0, 6));
        accepts(() -> promised(6), 1, "one less", hall -> hall.count(7, 0, 5));
        accepts(() -> promised(6), 5, "one for six", hall -> hall.count(7, 0, 1));
        accepts(() -> promised(6), 6, "none for six", hall -> hall.count(7, 0, 0));
        Hall hall = promised(6);
        hall.count(7, 0, 4);
        same("the first four stay", statuses(hall, 6), "oooobb");
        same("nothing is left of them", hall.available(0, 20), 0);
        Hall large = Check.hallWith("A");
        large.receive(0, 10, 90, 7);
        large.promise(0, 1, 20, false);
        large.promise(0, 9, 20, false);
        same("one large promise is enough", large.count(7, 0, 9), 1);
        same("eight units are left over", large.available(0, 20), 8);
    }

    /** On the present day and on the 60th after it. */
    private static void countingDaysFromThePresentOne() {
        for (int ahead : new int[] {0, 1, 59, 60}) {
            Hall hall = Check.hallWith("A");
            hall.pass(4);
            hall.receive(0, 3, 90, 7);
            hall.promise(0, 3, 4 + ahead, false);
            same("enough, " + ahead + " days ahead", hall.count(7, 0, 3), 0);
            same("one too few, " + ahead + " days ahead", hall.count(7, 0, 2), 1);
        }
        Hall hall = Check.hallWith("A");
        hall.receive(0, 3, 90, 7);
        hall.promise(0, 3, 3, false);
        hall.pass(4);
        same("a day that has passed", hall.count(7, 0, 0), 0);
        same("its promise has lapsed", hall.status(0), 'l');
        Hall expired = Check.hallWith("A");
        expired.receive(0, 3, 3, 7);
        expired.receive(0, 3, 90, 7);
        expired.pass(4);
        expired.promise(0, 3, 4, false);
        same("expired units are no stock", expired.count(7, 0, 0), 0);
        same("the promise stays", expired.status(0), 'o');
    }

    /** 5 units that last to the day 40, of which 5 are promised for the day 30; 5 to the day 10, promised for it. */
    private static Hall lateAndEarly() {
        Hall hall = Check.hallWith("A");
        hall.receive(0, 5, 40, 5);
        hall.receive(0, 5, 10, 6);
        hall.promise(0, 5, 30, false);
        hall.promise(0, 5, 10, false);
        return hall;
    }

    private static void countingGreatestDay() {
        Hall late = lateAndEarly();
        same("too few late ones", late.count(5, 0, 4), 1);
        same("short on both days, the greater one is taken", statuses(late, 2), "bo");
        Hall early = lateAndEarly();
        same("too few early ones", early.count(6, 1, 4), 1);
        same("short on the early day only", statuses(early, 2), "ob");
        Hall both = lateAndEarly();
        both.count(6, 1, 10);
        both.promise(0, 5, 9, false);
        same("none late", both.count(5, 0, 0), 1);
        same("the late one only", statuses(both, 3), "boo");
        same("none early", both.count(6, 1, 4), 2);
        same("the highest number first", statuses(both, 3), "bbb");
    }

    private static void countingDueOnItOrLater() {
        Hall hall = Check.hallWith("A");
        hall.receive(0, 5, 40, 5);
        hall.receive(0, 9, 29, 6);
        hall.promise(0, 2, 31, false);
        hall.promise(0, 3, 30, false);
        hall.promise(0, 4, 29, false);
        same("four are left for the days from 30 on", hall.count(5, 0, 4), 1);
        same("the one that is due on the day 30", statuses(hall, 3), "obo");
        same("one is left for the day 31", hall.count(5, 0, 1), 1);
        same("the one that is due on the day 31", statuses(hall, 3), "bbo");
    }

    private static void countingThisItem() {
        Hall hall = Check.hallWith("AB");
        hall.addSubstitute(0, 1, 1);
        hall.receive(0, 5, 40, 5);
        hall.receive(1, 9, 40, 6);
        hall.promise(0, 4, 30, true);
        hall.promise(0, 3, 30, true);
        hall.promise(1, 5, 30, true);
        same("the quantities", quantities(hall, 1, 2), "1 2");
        same("one unit is missing", hall.count(5, 0, 4), 1);
        same("the one with a quantity for the item", statuses(hall, 3), "obo");
        same("the other item is not looked at", hall.available(1, 30), 4);
        same("too few of the other item", hall.count(6, 1, 4), 1);
        same("the one with a quantity for that", statuses(hall, 3), "obb");
    }

    private static void countingHighestNumber() {
        Hall hall = promised(4);
        hall.cancel(3);
        hall.pick(1);
        same("one for two", hall.count(7, 0, 1), 1);
        same("the highest number that is open", statuses(hall, 4), "opbc");
    }

    private static void countingIntervals() {
        int[] intervals = {5, 10, 20};
        for (int item = 0; item < 3; item++) {
            for (int counted = 0; counted <= 1; counted++) {
                Hall hall = Check.hallWith("ABC");
                hall.receive(item, 1, 99, 11);
                if (counted > 0) {
                    hall.pass(counted);
                    hall.count(11, 0, 1);
                }
                same("the day of the count", hall.countDay(11), counted + intervals[item]);
                hall.pass(intervals[item] - 1);
                same("a day before it is due", hall.countsDue(), 0);
                hall.pass(1);
                same("on the day on which it is due", hall.countsDue(), 1);
            }
        }
    }

    private static void countingLeastInterval() {
        String[] mixtures = {"AB", "BA", "AC", "CA", "BC", "CB", "ABC", "CBA"};
        int[] least = {5, 5, 5, 5, 10, 10, 5, 5};
        for (int mixture = 0; mixture < mixtures.length; mixture++) {
            Hall hall = Check.hallWith(mixtures[mixture]);
            for (int item = 0; item < mixtures[mixture].length(); item++) {
                hall.receive(item, 1, item, 11);
            }
            same("the items " + mixtures[mixture], hall.countDay(11), least[mixture]);
            hall.pass(30);
            same("expired ones of " + mixtures[mixture], hall.countDay(11), least[mixture]);
        }
        Hall hall = Check.hallWith("ABC");
        for (int item = 0; item < 3; item++) {
            hall.receive(item, 1, 99, 11);
        }
        hall.move(0, 11, 12, 1);
        same("without the last unit of A", hall.countDay(11), 10);
        hall.count(11, 1, 0);
        same("without that of B", hall.countDay(11), 20);
    }

    private static void countingEmptyBin() {
        Hall hall = Check.hallWith("A");
        hall.receive(0, 1, 99, 11);
        hall.pass(30);
        same("one unit", hall.countsDue(), 1);
        hall.move(0, 11, 12, 1);
        same("moved", hall.countsDue(), 1);
        same("the bin it left", Check.outcome(() -> hall.countDay(11)), "NoSuchElementException");
        same("the next one", hall.nextCount(), 12);
        hall.count(12, 0, 0);
        same("no unit", hall.countsDue(), 0);
        same("the next one of none", Check.outcome(hall::nextCount), "NoSuchElementException");
        same("the bin it was in", Check.outcome(() -> hall.countDay(12)), "NoSuchElementException");
    }

    // Days

    private static void daysZero() {
        same("day", new Hall().day(), 0);
        accepts(() -> Check.hallWith("A"), 0, "a lot that expires on the day 0", hall -> hall.receive(0, 1, 0, 0));
        accepts(() -> Check.hallWith("A"), 0, "available on the day 0", hall -> hall.available(0, 0));
        accepts(() -> Check.hallWith("A"), 0, "on hand on the day 0", hall -> hall.onHandOn(0, 0));
    }

    private static void daysLapse() {
        for (int due = 0; due <= 29; due++) {
            Hall hall = Check.hallWith("A");
            hall.receive(0, 1, 99, 0);
            hall.promise(0, 1, due, false);
            if (due > 0) {
                same("up to its day", hall.pass(due), 0);
            }
            same("on its day", hall.status(0), 'o');
            same("on its day it can be picked", hall.pickLines(0), 1);
            same("a day later", hall.pass(1), 1);
            same("its status", hall.status(0), 'l');
            same("its units are free", hall.available(0, due + 1), 1);
        }
    }

    // Journal

    private static void journal150() {
        Hall hall = Check.hallWith("A");
        hall.receive(0, 1, 99, 0);
        for (int entry = 1; entry < 150; entry++) {
            int next = entry;
            same("before it is written", hall.ask(h -> h.entryKind(next)), "IndexOutOfBoundsException");
            hall.move(0, (entry - 1) % 40, entry % 40, 1);
            same("its bin", hall.ask(h -> h.entryTo(next)), entry % 40);
            same("entries", hall.ask(Hall::entries), entry + 1);
        }
        same("a move too many", Check.outcome(() -> hall.move(0, 29, 30, 1)), "IllegalStateException");
        same("a lot too many", Check.outcome(() -> hall.receive(0, 1, 99, 0)), "IllegalStateException");
        same("a count too many", Check.outcome(() -> hall.count(29, 0, 0)), "IllegalStateException");
        hall.promise(0, 1, 0, false);
        same("a pick too many", Check.outcome(() -> hall.pick(0)), "IllegalStateException");
        same("entry 150", Check.outcome(() -> hall.entryKind(150)), "IndexOutOfBoundsException");
        hall.cancel(0);
        for (int call = 0; call < 4; call++) {
            hall.pass(30);
        }
        same("disposing too much", Check.outcome(() -> hall.dispose(0)), "IllegalStateException");
        same("entries", hall.entries(), 150);
    }

    private static void journalEntry() {
        Hall hall = Check.hallWith("A");
        hall.receive(0, 9, 1, 39);
        same("only a bin to", entry(hall, 0), "r lot 0 from -1 to 39 of 9");
        hall.move(0, 39, 0, 9);
        same("both bins", entry(hall, 1), "m lot 0 from 39 to 0 of 9");
        hall.promise(0, 1, 0, false);
        hall.pick(0);
        same("only a bin from", entry(hall, 2), "p lot 0 from 0 to -1 of 1");
        hall.pass(2);
        hall.dispose(0);
        same("only a bin from", entry(hall, 3), "d lot 0 from 0 to -1 of 8");
        hall.count(0, 0, 2);
        same("only a bin to", entry(hall, 4), "c lot 0 from -1 to 0 of 2");
        same("the day of the first three", hall.onHandOn(0, 0), 8);
        same("the day between", hall.onHandOn(0, 1), 8);
        same("the day of the last two", hall.onHandOn(0, 2), 2);
    }

    private static void journalPickLines() {
        Hall hall = fortyUnits();
        hall.promise(0, 40, 0, false);
        hall.pick(0);
        for (int line = 0; line < 40; line++) {
            same("the entry of the line " + line, entry(hall, 40 + line),
                    "p lot 0 from " + ROUTE[line] + " to -1 of 1");
        }
        same("entries", hall.entries(), 80);
    }

    private static void journalDisposing() {
        Hall hall = fortyUnits();
        hall.count(12, 0, 0);
        hall.pass(1);
        hall.dispose(0);
        int entry = 41;
        for (int bin : ROUTE) {
            if (bin != 12) {
                same("the entry of the bin " + bin, entry(hall, entry), "d lot 0 from " + bin + " to -1 of 1");
                entry++;
            }
        }
        same("entries", hall.entries(), entry);
    }

    private static void journalCount() {
        for (int found = 0; found <= 30; found++) {
            Hall hall = Check.hallWith("A");
            hall.receive(0, 15, 50, 3);
            hall.count(3, 0, found);
            same("entries", hall.entries(), found == 15 ? 1 : 2);
            if (found > 15) {
                same("more", entry(hall, 1), "c lot 0 from -1 to 3 of " + (found - 15));
            }
            if (found < 15) {
                same("less", entry(hall, 1), "c lot 0 from 3 to -1 of " + (15 - found));
            }
        }
    }

    private static void journalStocks() {
        for (Scene scene : new Scene[] {Hall::new, Edges::allFull, Edges::allStatuses,
            TermsGoodsEdgesTest::fortyUnits, TermsGoodsEdgesTest::lateAndEarly}) {
            Hall hall = scene.make();
            int lots = hall.lots();
            for (int place = 0; place < 40 * lots; place++) {
                int lot = place / 40;
                int bin = place % 40;
                same("stock", hall.ask(h -> h.stockByJournal(lot, bin)), hall.ask(h -> h.stock(lot, bin)));
            }
        }
    }

    /** Each method that can throw, on an object on which nearly nothing is possible any longer. */
    private static void exceptionsChangeNothing() {
        Scene full = Edges::allFull;
        refuses(full, STATE, "addItem", hall -> hall.addItem('A'));
        refuses(full, INDEX, "addSubstitute", hall -> hall.addSubstitute(0, 6, 1));
        refuses(full, STATE, "receive", hall -> hall.receive(0, 1, 5, 30));
        refuses(full, STATE, "move", hall -> hall.move(0, 0, 30, 1));
        refuses(full, UNSUPPORTED, "dispose", hall -> hall.dispose(0));
        refuses(full, STATE, "count", hall -> hall.count(0, 0, 29));
        refuses(full, STATE, "promise", hall -> hall.promise(0, 1, 5, true));
        refuses(full, INDEX, "cancel", hall -> hall.cancel(20));
        refuses(full, STATE, "pick", hall -> hall.pick(0));
        refuses(full, INDEX, "status", hall -> hall.status(20));
        refuses(full, INDEX, "quantity", hall -> hall.quantity(0, 6));
        refuses(full, ARGUMENT, "available", hall -> hall.available(0, 61));
        refuses(full, ARGUMENT, "availableByTrying", hall -> hall.availableByTrying(0, 61));
        refuses(full, INDEX, "pickLines", hall -> hall.pickLines(20));
        refuses(full, NO_ELEMENT, "pickBin", hall -> hall.pickBin(0, 1));
        refuses(full, NO_ELEMENT, "pickLot", hall -> hall.pickLot(0, 1));
        refuses(full, NO_ELEMENT, "pickQuantity", hall -> hall.pickQuantity(0, 1));
        refuses(full, INDEX, "walk", hall -> hall.walk(20));
        refuses(full, INDEX, "walkByTrying", hall -> hall.walkByTrying(20));
        refuses(full, ARGUMENT, "pass", hall -> hall.pass(31));
        refuses(Hall::new, NO_ELEMENT, "nextCount", Hall::nextCount);
        refuses(full, NO_ELEMENT, "countDay", hall -> hall.countDay(39));
        refuses(full, INDEX, "stock", hall -> hall.stock(24, 0));
        refuses(full, INDEX, "stockByJournal", hall -> hall.stockByJournal(0, 40));
        refuses(full, INDEX, "load", hall -> hall.load(40));
        refuses(full, NO_ELEMENT, "nextLot", hall -> hall.nextLot(0, 61));
        refuses(full, INDEX, "onHand", hall -> hall.onHand(6));
        refuses(full, INDEX, "expired", hall -> hall.expired(6));
        refuses(full, INDEX, "entryKind", hall -> hall.entryKind(150));
        refuses(full, INDEX, "entryLot", hall -> hall.entryLot(150));
        refuses(full, INDEX, "entryFrom", hall -> hall.entryFrom(150));
        refuses(full, INDEX, "entryTo", hall -> hall.entryTo(150));
        refuses(full, INDEX, "entryQuantity", hall -> hall.entryQuantity(150));
        refuses(full, ARGUMENT, "onHandOn", hall -> hall.onHandOn(0, 1));
        refuses(full, NO_ELEMENT, "served", Hall::served);
    }
}
