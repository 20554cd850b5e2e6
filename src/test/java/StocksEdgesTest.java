/** Promises 26 to 32, sentence by sentence. */
public final class StocksEdgesTest extends Edges {
    private static final String FIRST_LISTED = "If several exceptions apply, the one that is listed first is thrown.";
    private static final String NO_ITEM = "Throws `IndexOutOfBoundsException` if there is no such item";
    private static final String NO_LOT_OR_BIN = "Throws `IndexOutOfBoundsException` if there is no such lot or bin";
    private static final String UNITS = "Returns the number of units.";

    public static void main(String[] args) {
        sentences().run(CHECK, "StocksEdgesTest");
    }

    static Sentences sentences() {
        Sentences all = new Sentences();
        addStocks(all);
        addItems(all);
        return all.at("Terms, Exceptions").say(FIRST_LISTED, StocksEdgesTest::promise30FirstListed);
    }

    private static void addStocks(Sentences all) {
        all.at("Promise 26")
                .say("Returns the number of units of a lot in a bin, as it is kept.",
                        StocksEdgesTest::promise26FromNoneToAll)
                .say(UNITS, StocksEdgesTest::promise26FromNoneToAll)
                .say(NO_LOT_OR_BIN, StocksEdgesTest::promise26NoSuchLotOrBin)
                .at("Promise 27")
                .say("Returns the same number, found from the journal.", StocksEdgesTest::promise27FromNoneToAll)
                .say(UNITS, StocksEdgesTest::promise27FromNoneToAll)
                .say(NO_LOT_OR_BIN, StocksEdgesTest::promise27NoSuchLotOrBin)
                .at("Promise 28")
                .say("Returns the number of units in a bin.", StocksEdgesTest::promise28FromNoneToFull)
                .say(UNITS, StocksEdgesTest::promise28FromNoneToFull)
                .say("Throws `IndexOutOfBoundsException` if there is no such bin", StocksEdgesTest::promise28NoSuchBin)
                .at("Promise 29")
                .say("Returns the number of lots.", StocksEdgesTest::promise29FromNoneTo24);
    }

    private static void addItems(Sentences all) {
        String nextLot = "Returns the first lot of an item, in the order of its lots, that has units and expires on a "
                + "due day or later, whether it is expired or not.";
        all.at("Promise 30")
                .say(nextLot, StocksEdgesTest::promise30FirstInOrder)
                .say(nextLot, StocksEdgesTest::promise30HasUnits)
                .say(nextLot, StocksEdgesTest::promise30OnTheDayOrLater)
                .say(nextLot, StocksEdgesTest::promise30ExpiredOrNot)
                .say("Returns the number of the lot.", StocksEdgesTest::promise30FirstInOrder)
                .say(NO_ITEM, StocksEdgesTest::promise30NoSuchItem)
                .say("Throws `NoSuchElementException` if there is none", StocksEdgesTest::promise30None)
                .at("Promise 31")
                .say("Returns the number of units in the lots of an item that are not expired.",
                        StocksEdgesTest::promise31NotExpired)
                .say(UNITS, StocksEdgesTest::promise31FromNoneToAll)
                .say(NO_ITEM, StocksEdgesTest::promise31NoSuchItem)
                .at("Promise 32")
                .say("Returns the number of units in the lots of an item that are expired.",
                        StocksEdgesTest::promise32Expired)
                .say(UNITS, StocksEdgesTest::promise32FromNoneToAll)
                .say(NO_ITEM, StocksEdgesTest::promise32NoSuchItem);
    }

    interface StockCall {
        int on(Hall hall, int lot, int bin);
    }

    /** A lot of 30 units in the bin 0, and one of 1 unit in the bin 39. */
    private static Hall twoLots() {
        Hall hall = Check.hallWith("AB");
        hall.receive(0, 30, 5, 0);
        hall.receive(1, 1, 9, 39);
        return hall;
    }

    private static Hall lots(int number) {
        Hall hall = Check.hallWith("A");
        for (int lot = 0; lot < number; lot++) {
            hall.receive(0, 1, 9, 39);
        }
        return hall;
    }

    private static void fromNoneToAll(StockCall call) {
        Hall hall = twoLots();
        same("a full bin", call.on(hall, 0, 0), 30);
        same("one unit", call.on(hall, 1, 39), 1);
        same("another lot", call.on(hall, 0, 39), 0);
        same("an empty bin", call.on(hall, 0, 20), 0);
        hall.move(0, 0, 39, 29);
        same("all but one moved away", call.on(hall, 0, 0), 1);
        same("moved there", call.on(hall, 0, 39), 29);
        hall.move(0, 0, 1, 1);
        same("the last one moved away", call.on(hall, 0, 0), 0);
        hall.promise(0, 30, 0, false);
        same("promised only", call.on(hall, 0, 39), 29);
        hall.pick(0);
        same("picked", call.on(hall, 0, 39), 0);
        same("picked too", call.on(hall, 0, 1), 0);
        hall.count(1, 0, 30);
        same("found again", call.on(hall, 0, 1), 30);
        hall.count(1, 0, 2);
        same("found less", call.on(hall, 0, 1), 2);
        hall.count(39, 1, 0);
        same("not found", call.on(hall, 1, 39), 0);
        hall.pass(6);
        same("expired", call.on(hall, 0, 1), 2);
        hall.dispose(0);
        same("disposed of", call.on(hall, 0, 1), 0);
    }

    private static void noSuchLotOrBin(StockCall call) {
        refuses(StocksEdgesTest::twoLots, INDEX, "lot -1", hall -> call.on(hall, -1, 0));
        accepts(StocksEdgesTest::twoLots, 30, "lot 0", hall -> call.on(hall, 0, 0));
        accepts(StocksEdgesTest::twoLots, 1, "lot 1 of 2", hall -> call.on(hall, 1, 39));
        refuses(StocksEdgesTest::twoLots, INDEX, "lot 2 of 2", hall -> call.on(hall, 2, 0));
        refuses(StocksEdgesTest::twoLots, INDEX, "lot 23 of 2", hall -> call.on(hall, 23, 0));
        refuses(Hall::new, INDEX, "lot 0 of none", hall -> call.on(hall, 0, 0));
        accepts(() -> lots(24), 1, "lot 23 of 24", hall -> call.on(hall, 23, 39));
        refuses(() -> lots(24), INDEX, "lot 24 of 24", hall -> call.on(hall, 24, 39));
        refuses(StocksEdgesTest::twoLots, INDEX, "bin -1", hall -> call.on(hall, 0, -1));
        refuses(StocksEdgesTest::twoLots, INDEX, "bin 40", hall -> call.on(hall, 0, 40));
        refuses(StocksEdgesTest::twoLots, INDEX, "lot 2 and bin 40", hall -> call.on(hall, 2, 40));
    }

    private static void promise26FromNoneToAll() {
        fromNoneToAll(Hall::stock);
    }

    private static void promise26NoSuchLotOrBin() {
        noSuchLotOrBin(Hall::stock);
    }

    private static void promise27FromNoneToAll() {
        fromNoneToAll(Hall::stockByJournal);
        // A full journal tells as much as one with space.
        Hall hall = leaveEntries(twoLots(), 0, 0, 0, 39);
        for (int lot = 0; lot < 2; lot++) {
            for (int bin = 0; bin < 40; bin++) {
                same("stock by a full journal", hall.stockByJournal(lot, bin), hall.stock(lot, bin));
            }
        }
    }

    private static void promise27NoSuchLotOrBin() {
        noSuchLotOrBin(Hall::stockByJournal);
    }

    private static void promise28FromNoneToFull() {
        Hall hall = Check.hallWith("AB");
        same("an empty bin", hall.load(7), 0);
        hall.receive(0, 1, 0, 7);
        same("one unit", hall.load(7), 1);
        hall.receive(1, 28, 9, 7);
        same("nearly full", hall.load(7), 29);
        hall.receive(0, 1, 9, 7);
        same("full", hall.load(7), 30);
        same("the bin before it", hall.load(6), 0);
        hall.pass(1);
        same("with an expired unit", hall.load(7), 30);
        hall.dispose(0);
        same("without it", hall.load(7), 29);
        hall.count(7, 1, 0);
        same("without the other item", hall.load(7), 1);
        hall.move(2, 7, 8, 1);
        same("empty again", hall.load(7), 0);
    }

    private static void promise28NoSuchBin() {
        refuses(StocksEdgesTest::twoLots, INDEX, "bin -1", hall -> hall.load(-1));
        accepts(StocksEdgesTest::twoLots, 30, "bin 0", hall -> hall.load(0));
        accepts(StocksEdgesTest::twoLots, 1, "bin 39", hall -> hall.load(39));
        refuses(StocksEdgesTest::twoLots, INDEX, "bin 40", hall -> hall.load(40));
        refuses(Hall::new, INDEX, "bin 40 of a new object", hall -> hall.load(40));
    }

    private static void promise29FromNoneTo24() {
        for (int number = 0; number <= 24; number++) {
            int made = number;
            accepts(() -> lots(made), made, "lots", Hall::lots);
        }
        Hall hall = lots(24);
        same("a 25th lot", Check.outcome(() -> hall.receive(0, 1, 9, 0)), "IllegalStateException");
        same("lots after it", hall.lots(), 24);
        hall.count(39, 0, 0);
        same("a lot without units is still a lot", hall.lots(), 24);
    }

    /** Lots of the item 0 that expire on the days 20, 10, 10 and 15, and one of the item 1 on the day 10. */
    private static Hall fourExpiries() {
        Hall hall = Check.hallWith("AB");
        hall.receive(1, 1, 10, 0);
        hall.receive(0, 1, 20, 1);
        hall.receive(0, 1, 10, 2);
        hall.receive(0, 1, 10, 3);
        hall.receive(0, 1, 15, 4);
        return hall;
    }

    private static void promise30FirstInOrder() {
        accepts(StocksEdgesTest::fourExpiries, 2, "of two on the same day the lower number", h -> h.nextLot(0, 0));
        accepts(StocksEdgesTest::fourExpiries, 0, "of the other item", hall -> hall.nextLot(1, 0));
        accepts(StocksEdgesTest::fourExpiries, 4, "the earlier one with the higher number", h -> h.nextLot(0, 11));
        Scene twentyFour = () -> {
            Hall hall = Check.hallWith("A");
            for (int lot = 0; lot < 24; lot++) {
                hall.receive(0, 1, 99 - lot, 0);
            }
            return hall;
        };
        accepts(twentyFour, 23, "the last of 24", hall -> hall.nextLot(0, 0));
        accepts(twentyFour, 0, "the first of 24", hall -> hall.nextLot(0, 99));
    }

    private static void promise30HasUnits() {
        Hall hall = fourExpiries();
        hall.count(2, 2, 0);
        same("the next one with units", hall.nextLot(0, 0), 3);
        hall.move(3, 3, 5, 1);
        same("units in another bin", hall.nextLot(0, 0), 3);
        hall.promise(0, 1, 0, false);
        same("promised units are units", hall.nextLot(0, 0), 3);
        hall.pick(0);
        same("picked ones are not", hall.nextLot(0, 0), 4);
        hall.count(9, 2, 1);
        same("one unit was found", hall.nextLot(0, 0), 2);
    }

    private static void promise30OnTheDayOrLater() {
        accepts(StocksEdgesTest::fourExpiries, 2, "on the day before", hall -> hall.nextLot(0, 9));
        accepts(StocksEdgesTest::fourExpiries, 2, "on the day", hall -> hall.nextLot(0, 10));
        accepts(StocksEdgesTest::fourExpiries, 4, "on the day after", hall -> hall.nextLot(0, 11));
        accepts(StocksEdgesTest::fourExpiries, 1, "on the last day", hall -> hall.nextLot(0, 20));
        refuses(StocksEdgesTest::fourExpiries, NO_ELEMENT, "after the last day", hall -> hall.nextLot(0, 21));
        accepts(StocksEdgesTest::fourExpiries, 2, "the least day", hall -> hall.nextLot(0, Integer.MIN_VALUE));
        refuses(StocksEdgesTest::fourExpiries, NO_ELEMENT, "the greatest day",
                hall -> hall.nextLot(0, Integer.MAX_VALUE));
    }

    private static void promise30ExpiredOrNot() {
        Hall hall = fourExpiries();
        hall.pass(11);
        same("expired yesterday", hall.nextLot(0, 10), 2);
        same("not expired", hall.nextLot(0, 11), 4);
        hall.pass(10);
        same("all expired, a day in the past", hall.nextLot(0, 16), 1);
        same("all expired, the first", hall.nextLot(0, -1), 2);
        same("all expired, today", Check.outcome(() -> hall.nextLot(0, 21)), "NoSuchElementException");
    }

    private static void promise30NoSuchItem() {
        refuses(StocksEdgesTest::fourExpiries, INDEX, "item -1", hall -> hall.nextLot(-1, 0));
        accepts(StocksEdgesTest::fourExpiries, 0, "item 1 of 2", hall -> hall.nextLot(1, 0));
        refuses(StocksEdgesTest::fourExpiries, INDEX, "item 2 of 2", hall -> hall.nextLot(2, 0));
        refuses(Hall::new, INDEX, "item 0 of none", hall -> hall.nextLot(0, 0));
        Scene six = () -> {
            Hall hall = Check.hallWith("ABCABC");
            hall.receive(5, 1, 9, 0);
            return hall;
        };
        accepts(six, 0, "item 5 of 6", hall -> hall.nextLot(5, 0));
        refuses(six, INDEX, "item 6 of 6", hall -> hall.nextLot(6, 0));
    }

    private static void promise30None() {
        refuses(() -> Check.hallWith("A"), NO_ELEMENT, "no lots", hall -> hall.nextLot(0, 0));
        Scene otherItem = () -> {
            Hall hall = Check.hallWith("AB");
            hall.receive(1, 1, 9, 0);
            return hall;
        };
        refuses(otherItem, NO_ELEMENT, "lots of another item only", hall -> hall.nextLot(0, 0));
        Scene noUnits = () -> {
            Hall hall = lots(1);
            hall.count(39, 0, 0);
            return hall;
        };
        refuses(noUnits, NO_ELEMENT, "a lot without units", hall -> hall.nextLot(0, 0));
        accepts(() -> lots(1), 0, "one unit", hall -> hall.nextLot(0, 0));
    }

    private static void promise30FirstListed() {
        refuses(StocksEdgesTest::fourExpiries, INDEX, "no item, no lot", hall -> hall.nextLot(2, 21));
        refuses(() -> Check.hallWith("A"), INDEX, "no item, no lot", hall -> hall.nextLot(-1, 0));
    }

    /** Of the item 0, 5 units that expire on the day 2 and 6 that expire on the day 3; 7 of the item 1. */
    private static Hall onDay(int day) {
        Hall hall = Check.hallWith("AB");
        hall.receive(0, 5, 2, 0);
        hall.receive(0, 6, 3, 0);
        hall.receive(1, 7, 2, 0);
        if (day > 0) {
            hall.pass(day);
        }
        return hall;
    }

    private static void promise31NotExpired() {
        accepts(() -> onDay(0), 11, "at first", hall -> hall.onHand(0));
        accepts(() -> onDay(2), 11, "on the day of expiry", hall -> hall.onHand(0));
        accepts(() -> onDay(3), 6, "a day later", hall -> hall.onHand(0));
        accepts(() -> onDay(4), 0, "two days later", hall -> hall.onHand(0));
        accepts(() -> onDay(2), 7, "another item on the day of expiry", hall -> hall.onHand(1));
        accepts(() -> onDay(3), 0, "another item a day later", hall -> hall.onHand(1));
    }

    private static void promise31FromNoneToAll() {
        accepts(() -> Check.hallWith("A"), 0, "no lots", hall -> hall.onHand(0));
        accepts(Edges::allFull, 120, "a sixth of 24 full bins", hall -> hall.onHand(5));
        Hall hall = Check.hallWith("A");
        hall.receive(0, 30, 60, 0);
        for (int bin = 1; bin < 40; bin++) {
            hall.count(bin, 0, 30);
        }
        same("forty full bins", hall.onHand(0), 1200);
    }

    private static void promise31NoSuchItem() {
        refuses(() -> onDay(0), INDEX, "item -1", hall -> hall.onHand(-1));
        accepts(() -> onDay(0), 7, "item 1 of 2", hall -> hall.onHand(1));
        refuses(() -> onDay(0), INDEX, "item 2 of 2", hall -> hall.onHand(2));
        refuses(Hall::new, INDEX, "item 0 of none", hall -> hall.onHand(0));
        accepts(() -> Check.hallWith("ABCABC"), 0, "item 5 of 6", hall -> hall.onHand(5));
        refuses(() -> Check.hallWith("ABCABC"), INDEX, "item 6 of 6", hall -> hall.onHand(6));
    }

    private static void promise32Expired() {
        accepts(() -> onDay(0), 0, "at first", hall -> hall.expired(0));
        accepts(() -> onDay(2), 0, "on the day of expiry", hall -> hall.expired(0));
        accepts(() -> onDay(3), 5, "a day later", hall -> hall.expired(0));
        accepts(() -> onDay(4), 11, "two days later", hall -> hall.expired(0));
        accepts(() -> onDay(2), 0, "another item on the day of expiry", hall -> hall.expired(1));
        accepts(() -> onDay(3), 7, "another item a day later", hall -> hall.expired(1));
    }

    private static void promise32FromNoneToAll() {
        accepts(() -> Check.hallWith("A"), 0, "no lots", hall -> hall.expired(0));
        Hall hall = Check.hallWith("A");
        hall.receive(0, 30, 0, 0);
        for (int bin = 1; bin < 40; bin++) {
            hall.count(bin, 0, 30);
        }
        hall.pass(1);
        same("forty full bins", hall.expired(0), 1200);
        hall.dispose(0);
        same("none after disposing", hall.expired(0), 0);
        Hall full = allFull();
        full.pass(30);
        full.pass(30);
        same("a full object on its last day", full.expired(5), 0);
        full.pass(1);
        same("a full object a day later", full.expired(5), 120);
    }

    private static void promise32NoSuchItem() {
        refuses(() -> onDay(3), INDEX, "item -1", hall -> hall.expired(-1));
        accepts(() -> onDay(3), 7, "item 1 of 2", hall -> hall.expired(1));
        refuses(() -> onDay(3), INDEX, "item 2 of 2", hall -> hall.expired(2));
        refuses(Hall::new, INDEX, "item 0 of none", hall -> hall.expired(0));
        accepts(() -> Check.hallWith("ABCABC"), 0, "item 5 of 6", hall -> hall.expired(5));
        refuses(() -> Check.hallWith("ABCABC"), INDEX, "item 6 of 6", hall -> hall.expired(6));
    }
}
