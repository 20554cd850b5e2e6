/** Promises 4 to 7, sentence by sentence. */
public final class GoodsEdgesTest extends Edges {
    private static final String FIRST_LISTED = "If several exceptions apply, the one that is listed first is thrown.";

    public static void main(String[] args) {
        sentences().run(CHECK, "GoodsEdgesTest");
    }

    static Sentences sentences() {
        Sentences all = new Sentences();
        addReceive(all);
        addMove(all);
        addDispose(all);
        addCount(all);
        return all.at("Terms, Exceptions")
                .say(FIRST_LISTED, GoodsEdgesTest::promise4FirstListed)
                .say(FIRST_LISTED, GoodsEdgesTest::promise5FirstListed)
                .say(FIRST_LISTED, GoodsEdgesTest::promise6FirstListed)
                .say(FIRST_LISTED, GoodsEdgesTest::promise7FirstListed);
    }

    private static void addReceive(Sentences all) {
        String between = "Throws `IllegalArgumentException` if the quantity is not between 1 and 30, "
                + "or the expiry is not between the present day and that day plus 99";
        String full = "Throws `IllegalStateException` if there are 24 lots, or the journal is full";
        all.at("Promise 4")
                .say("Receives a new lot into a bin.", GoodsEdgesTest::promise4NewLot)
                .say("Returns the number of the lot.", GoodsEdgesTest::promise4Number)
                .say("Throws `IndexOutOfBoundsException` if there is no such item or bin",
                        GoodsEdgesTest::promise4NoSuchItem)
                .say("Throws `IndexOutOfBoundsException` if there is no such item or bin",
                        GoodsEdgesTest::promise4NoSuchBin)
                .say(between, GoodsEdgesTest::promise4Quantity)
                .say(between, GoodsEdgesTest::promise4Expiry)
                .say(full, GoodsEdgesTest::promise4Lots)
                .say(full, GoodsEdgesTest::promise4Journal)
                .say("Throws `UnsupportedOperationException` if the bin would contain more than 30 units",
                        GoodsEdgesTest::promise4BinSpace);
    }

    private static void addMove(Sentences all) {
        String unsupported = "Throws `UnsupportedOperationException` if both bins are the same, "
                + "or the other one would contain more than 30 units";
        all.at("Promise 5")
                .say("Moves units of a lot to another bin.", GoodsEdgesTest::promise5Moves)
                .say("Returns the number of units of the lot in the other bin.", GoodsEdgesTest::promise5Units)
                .say("Throws `IndexOutOfBoundsException` if there is no such lot or bin, for either",
                        GoodsEdgesTest::promise5NoSuchLotOrBin)
                .say("Throws `IllegalArgumentException` if the quantity is not between 1 and 30",
                        GoodsEdgesTest::promise5Quantity)
                .say("Throws `IllegalStateException` if the journal is full", GoodsEdgesTest::promise5Journal)
                .say("Throws `NoSuchElementException` if there are fewer units of the lot in the first bin",
                        GoodsEdgesTest::promise5FewerUnits)
                .say(unsupported, GoodsEdgesTest::promise5SameBin)
                .say(unsupported, GoodsEdgesTest::promise5BinSpace);
    }

    private static void addDispose(Sentences all) {
        all.at("Promise 6")
                .say("Disposes of all units of an expired lot.", GoodsEdgesTest::promise6AllUnits)
                .say("Returns the number of units.", GoodsEdgesTest::promise6Number)
                .say("Throws `IndexOutOfBoundsException` if there is no such lot", GoodsEdgesTest::promise6NoSuchLot)
                .say("Throws `NoSuchElementException` if it has no units", GoodsEdgesTest::promise6NoUnits)
                .say("Throws `UnsupportedOperationException` if it is not expired", GoodsEdgesTest::promise6NotExpired)
                .say("Throws `IllegalStateException` if the journal has too little space for the entries",
                        GoodsEdgesTest::promise6Journal);
    }

    private static void addCount(Sentences all) {
        String needed = "Throws `IllegalStateException` if an entry is needed, and the journal is full";
        all.at("Promise 7")
                .say("Counts a lot in a bin.", GoodsEdgesTest::promise7Counts)
                .say("Returns the number of promises that were broken.", GoodsEdgesTest::promise7Number)
                .say("Throws `IndexOutOfBoundsException` if there is no such bin or lot",
                        GoodsEdgesTest::promise7NoSuchBinOrLot)
                .say("Throws `IllegalArgumentException` if what was found is not between 0 and 30",
                        GoodsEdgesTest::promise7Found)
                .say("Throws `UnsupportedOperationException` if the bin would contain more than 30 units",
                        GoodsEdgesTest::promise7BinSpace)
                .say(needed, GoodsEdgesTest::promise7EntryNeeded)
                .say(needed, GoodsEdgesTest::promise7NoEntryNeeded);
    }

    // Receiving

    /** Two items, on the day 5: the bin 7 has 20 units of the lot 0, the bin 8 is full of the lot 1. */
    private static Hall dayFive() {
        Hall hall = Check.hallWith("AB");
        hall.pass(5);
        hall.receive(0, 20, 50, 7);
        hall.receive(1, 30, 50, 8);
        return hall;
    }

    private static Hall journalWith(int left) {
        return leaveEntries(dayFive(), left, 0, 7, 39);
    }

    /** On the day 0, so many lots of 15 units, each two in a bin. */
    private static Hall lots(int number) {
        Hall hall = Check.hallWith("AB");
        for (int lot = 0; lot < number; lot++) {
            hall.receive(lot % 2, 15, 40, lot / 2);
        }
        return hall;
    }

    private static void promise4NewLot() {
        Hall hall = dayFive();
        hall.receive(0, 10, 50, 7);
        same("the lot in the bin", hall.stock(2, 7), 10);
        same("the lot that is there", hall.stock(0, 7), 20);
        same("load", hall.load(7), 30);
        same("lots", hall.lots(), 3);
        same("entry", entry(hall, 2), "r lot 2 from -1 to 7 of 10");
        for (int bin = 0; bin < 40; bin++) {
            same("the lot elsewhere", hall.stock(2, bin), bin == 7 ? 10 : 0);
        }
    }

    private static void promise4Number() {
        Hall hall = Check.hallWith("AB");
        for (int lot = 0; lot < 24; lot++) {
            same("receive", hall.receive(lot % 2, 1, 99 - lot, 39 - lot), lot);
        }
    }

    private static void promise4NoSuchItem() {
        refuses(GoodsEdgesTest::dayFive, INDEX, "item -1", hall -> hall.receive(-1, 1, 10, 0));
        accepts(GoodsEdgesTest::dayFive, 2, "item 0", hall -> hall.receive(0, 1, 10, 0));
        accepts(GoodsEdgesTest::dayFive, 2, "item 1", hall -> hall.receive(1, 1, 10, 0));
        refuses(GoodsEdgesTest::dayFive, INDEX, "item 2", hall -> hall.receive(2, 1, 10, 0));
        refuses(Hall::new, INDEX, "item 0 of none", hall -> hall.receive(0, 1, 10, 0));
        accepts(() -> Check.hallWith("ABCABC"), 0, "item 5 of 6", hall -> hall.receive(5, 1, 10, 0));
        refuses(() -> Check.hallWith("ABCABC"), INDEX, "item 6 of 6", hall -> hall.receive(6, 1, 10, 0));
    }

    private static void promise4NoSuchBin() {
        refuses(GoodsEdgesTest::dayFive, INDEX, "bin -1", hall -> hall.receive(0, 1, 10, -1));
        accepts(GoodsEdgesTest::dayFive, 2, "bin 0", hall -> hall.receive(0, 1, 10, 0));
        accepts(GoodsEdgesTest::dayFive, 2, "bin 39", hall -> hall.receive(0, 1, 10, 39));
        refuses(GoodsEdgesTest::dayFive, INDEX, "bin 40", hall -> hall.receive(0, 1, 10, 40));
    }

    private static void promise4Quantity() {
        refuses(GoodsEdgesTest::dayFive, ARGUMENT, "quantity -1", hall -> hall.receive(0, -1, 10, 0));
        refuses(GoodsEdgesTest::dayFive, ARGUMENT, "quantity 0", hall -> hall.receive(0, 0, 10, 0));
        accepts(GoodsEdgesTest::dayFive, 2, "quantity 1", hall -> hall.receive(0, 1, 10, 0));
        accepts(GoodsEdgesTest::dayFive, 2, "quantity 30", hall -> hall.receive(0, 30, 10, 0));
        refuses(GoodsEdgesTest::dayFive, ARGUMENT, "quantity 31", hall -> hall.receive(0, 31, 10, 0));
    }

    private static void promise4Expiry() {
        refuses(GoodsEdgesTest::dayFive, ARGUMENT, "expiry 4 on day 5", hall -> hall.receive(0, 1, 4, 0));
        accepts(GoodsEdgesTest::dayFive, 2, "expiry 5 on day 5", hall -> hall.receive(0, 1, 5, 0));
        accepts(GoodsEdgesTest::dayFive, 2, "expiry 104 on day 5", hall -> hall.receive(0, 1, 104, 0));
        refuses(GoodsEdgesTest::dayFive, ARGUMENT, "expiry 105 on day 5", hall -> hall.receive(0, 1, 105, 0));
        refuses(() -> lots(0), ARGUMENT, "expiry -1 on day 0", hall -> hall.receive(0, 1, -1, 0));
        accepts(() -> lots(0), 0, "expiry 0 on day 0", hall -> hall.receive(0, 1, 0, 0));
        accepts(() -> lots(0), 0, "expiry 99 on day 0", hall -> hall.receive(0, 1, 99, 0));
        refuses(() -> lots(0), ARGUMENT, "expiry 100 on day 0", hall -> hall.receive(0, 1, 100, 0));
    }

    private static void promise4Lots() {
        accepts(() -> lots(23), 23, "the 24th lot", hall -> hall.receive(0, 15, 40, 11));
        refuses(() -> lots(24), STATE, "a 25th lot", hall -> hall.receive(0, 1, 40, 30));
        refuses(GoodsEdgesTest::lotsWithoutUnits, STATE, "a 25th lot after all units have gone",
                hall -> hall.receive(0, 1, hall.day(), 0));
    }

    private static Hall lotsWithoutUnits() {
        Hall hall = lots(24);
        for (int lot = 0; lot < 24; lot++) {
            hall.count(lot / 2, lot, 0);
        }
        return hall;
    }

    private static void promise4Journal() {
        accepts(() -> journalWith(1), 2, "with one entry left", hall -> hall.receive(0, 1, 10, 0));
        refuses(() -> journalWith(0), STATE, "with a full journal", hall -> hall.receive(0, 1, 10, 0));
    }

    private static void promise4BinSpace() {
        accepts(GoodsEdgesTest::dayFive, 2, "10 to 20", hall -> hall.receive(0, 10, 10, 7));
        refuses(GoodsEdgesTest::dayFive, UNSUPPORTED, "11 to 20", hall -> hall.receive(0, 11, 10, 7));
        accepts(GoodsEdgesTest::dayFive, 2, "10 of another item to 20", hall -> hall.receive(1, 10, 10, 7));
        refuses(GoodsEdgesTest::dayFive, UNSUPPORTED, "11 of another item to 20", hall -> hall.receive(1, 11, 10, 7));
        refuses(GoodsEdgesTest::dayFive, UNSUPPORTED, "1 to 30", hall -> hall.receive(1, 1, 10, 8));
        refuses(GoodsEdgesTest::expiredInBin, UNSUPPORTED, "11 to 20 expired ones", hall -> hall.receive(0, 11, 51, 7));
        accepts(GoodsEdgesTest::expiredInBin, 2, "10 to 20 expired ones", hall -> hall.receive(0, 10, 51, 7));
    }

    private static Hall expiredInBin() {
        Hall hall = dayFive();
        hall.pass(30);
        hall.pass(16);
        return hall;
    }

    private static void promise4FirstListed() {
        Scene room = GoodsEdgesTest::dayFive;
        Scene full = () -> lots(24);
        Scene written = () -> journalWith(0);
        refuses(room, INDEX, "no item, quantity", hall -> hall.receive(2, 0, 10, 0));
        refuses(room, INDEX, "no item, expiry", hall -> hall.receive(-1, 1, 4, 0));
        refuses(room, INDEX, "no bin, quantity", hall -> hall.receive(0, 31, 10, 40));
        refuses(room, INDEX, "no bin, expiry", hall -> hall.receive(0, 1, 105, -1));
        refuses(room, INDEX, "no item, bin too small", hall -> hall.receive(2, 30, 10, 7));
        refuses(full, INDEX, "no item, 24 lots", hall -> hall.receive(2, 1, 10, 30));
        refuses(full, INDEX, "no bin, 24 lots", hall -> hall.receive(0, 1, 10, 40));
        refuses(written, INDEX, "no item, full journal", hall -> hall.receive(2, 1, 10, 0));
        refuses(written, INDEX, "no bin, full journal", hall -> hall.receive(0, 1, 10, 40));
        refuses(full, ARGUMENT, "quantity, 24 lots", hall -> hall.receive(0, 0, 10, 30));
        refuses(full, ARGUMENT, "expiry, 24 lots", hall -> hall.receive(0, 1, 100, 30));
        refuses(written, ARGUMENT, "quantity, full journal", hall -> hall.receive(0, 31, 10, 0));
        refuses(written, ARGUMENT, "expiry, full journal", hall -> hall.receive(0, 1, 4, 0));
        refuses(room, ARGUMENT, "quantity, bin too small", hall -> hall.receive(0, 31, 10, 7));
        refuses(room, ARGUMENT, "expiry, bin too small", hall -> hall.receive(0, 11, 105, 7));
        refuses(full, STATE, "24 lots, bin too small", hall -> hall.receive(0, 1, 10, 0));
        refuses(written, STATE, "full journal, bin too small", hall -> hall.receive(0, 1, 10, 8));
    }

    // Moving

    private static void promise5Moves() {
        Hall hall = dayFive();
        hall.move(0, 7, 39, 6);
        same("in the first bin", hall.stock(0, 7), 14);
        same("in the other one", hall.stock(0, 39), 6);
        same("the load of the first bin", hall.load(7), 14);
        same("the load of the other one", hall.load(39), 6);
        same("on hand", hall.onHand(0), 20);
        same("entry", entry(hall, 2), "m lot 0 from 7 to 39 of 6");
        hall.pass(30);
        hall.pass(30);
        accepts(() -> hall, 20, "move of an expired lot", h -> h.move(0, 7, 39, 14));
        same("the first bin is empty", hall.load(7), 0);
    }

    private static void promise5Units() {
        Hall hall = dayFive();
        hall.receive(1, 3, 50, 20);
        same("without other lots", hall.move(0, 7, 20, 1), 1);
        same("with those that were there", hall.move(0, 7, 20, 9), 10);
        same("back", hall.move(0, 20, 7, 10), 20);
    }

    private static void promise5NoSuchLotOrBin() {
        Scene scene = GoodsEdgesTest::dayFive;
        refuses(scene, INDEX, "lot -1", hall -> hall.move(-1, 7, 0, 1));
        accepts(scene, 1, "lot 0", hall -> hall.move(0, 7, 0, 1));
        accepts(scene, 1, "lot 1", hall -> hall.move(1, 8, 0, 1));
        refuses(scene, INDEX, "lot 2", hall -> hall.move(2, 7, 0, 1));
        refuses(() -> lots(0), INDEX, "lot 0 of none", hall -> hall.move(0, 7, 0, 1));
        accepts(() -> lots(24), 1, "lot 23 of 24", hall -> hall.move(23, 11, 30, 1));
        refuses(() -> lots(24), INDEX, "lot 24 of 24", hall -> hall.move(24, 11, 30, 1));
        refuses(scene, INDEX, "from -1", hall -> hall.move(0, -1, 0, 1));
        refuses(scene, INDEX, "from 40", hall -> hall.move(0, 40, 0, 1));
        refuses(scene, INDEX, "to -1", hall -> hall.move(0, 7, -1, 1));
        refuses(scene, INDEX, "to 40", hall -> hall.move(0, 7, 40, 1));
        accepts(scene, 1, "to 0", hall -> hall.move(0, 7, 0, 1));
        accepts(scene, 1, "to 39", hall -> hall.move(0, 7, 39, 1));
        Scene ends = () -> {
            Hall hall = lots(0);
            hall.receive(0, 1, 50, 0);
            hall.receive(0, 1, 50, 39);
            return hall;
        };
        accepts(ends, 1, "from 0", hall -> hall.move(0, 0, 39, 1));
        accepts(ends, 1, "from 39", hall -> hall.move(1, 39, 0, 1));
    }

    private static void promise5Quantity() {
        Scene scene = GoodsEdgesTest::dayFive;
        refuses(scene, ARGUMENT, "quantity -1", hall -> hall.move(1, 8, 0, -1));
        refuses(scene, ARGUMENT, "quantity 0", hall -> hall.move(1, 8, 0, 0));
        accepts(scene, 1, "quantity 1", hall -> hall.move(1, 8, 0, 1));
        accepts(scene, 30, "quantity 30", hall -> hall.move(1, 8, 0, 30));
        refuses(scene, ARGUMENT, "quantity 31", hall -> hall.move(1, 8, 0, 31));
    }

    private static void promise5Journal() {
        accepts(() -> journalWith(1), 1, "with one entry left", hall -> hall.move(1, 8, 0, 1));
        refuses(() -> journalWith(0), STATE, "with a full journal", hall -> hall.move(1, 8, 0, 1));
    }

    /** The bin 3 has 5 units of the lot 0 and 9 of the lot 1, which is of the same item; the lot 0 is in 4, too. */
    private static Hall mixed() {
        Hall hall = Check.hallWith("AB");
        hall.receive(0, 20, 50, 4);
        hall.receive(0, 9, 50, 3);
        hall.move(0, 4, 3, 5);
        return hall;
    }

    private static void promise5FewerUnits() {
        accepts(GoodsEdgesTest::mixed, 5, "5 of 5", hall -> hall.move(0, 3, 0, 5));
        refuses(GoodsEdgesTest::mixed, NO_ELEMENT, "6 of 5", hall -> hall.move(0, 3, 0, 6));
        refuses(GoodsEdgesTest::mixed, NO_ELEMENT, "30 of 5", hall -> hall.move(0, 3, 0, 30));
        refuses(GoodsEdgesTest::mixed, NO_ELEMENT, "1 of 0", hall -> hall.move(1, 4, 0, 1));
        refuses(GoodsEdgesTest::mixed, NO_ELEMENT, "1 of an empty bin", hall -> hall.move(1, 30, 0, 1));
    }

    private static void promise5SameBin() {
        refuses(GoodsEdgesTest::mixed, UNSUPPORTED, "1 of 5", hall -> hall.move(0, 3, 3, 1));
        refuses(GoodsEdgesTest::mixed, UNSUPPORTED, "5 of 5", hall -> hall.move(0, 3, 3, 5));
        refuses(GoodsEdgesTest::dayFive, UNSUPPORTED, "in a full bin", hall -> hall.move(1, 8, 8, 30));
        accepts(GoodsEdgesTest::mixed, 1, "into the next bin", hall -> hall.move(0, 3, 2, 1));
    }

    private static void promise5BinSpace() {
        accepts(GoodsEdgesTest::dayFive, 10, "10 to 20 of another lot", hall -> hall.move(1, 8, 7, 10));
        refuses(GoodsEdgesTest::dayFive, UNSUPPORTED, "11 to 20 of another lot", hall -> hall.move(1, 8, 7, 11));
        refuses(GoodsEdgesTest::dayFive, UNSUPPORTED, "1 to 30", hall -> hall.move(0, 7, 8, 1));
        Scene nearlyFull = () -> {
            Hall hall = mixed();
            hall.receive(1, 11, 60, 3);
            return hall;
        };
        accepts(nearlyFull, 10, "5 to 25", hall -> hall.move(0, 4, 3, 5));
        refuses(nearlyFull, UNSUPPORTED, "6 to 25", hall -> hall.move(0, 4, 3, 6));
    }

    private static void promise5FirstListed() {
        Scene room = GoodsEdgesTest::dayFive;
        Scene written = () -> journalWith(0);
        refuses(room, INDEX, "no lot, quantity", hall -> hall.move(2, 7, 0, 0));
        refuses(room, INDEX, "no bin, quantity", hall -> hall.move(0, 40, 0, 31));
        refuses(room, INDEX, "no other bin, quantity", hall -> hall.move(0, 7, 40, 31));
        refuses(written, INDEX, "no lot, full journal", hall -> hall.move(2, 7, 0, 1));
        refuses(written, INDEX, "no bin, full journal", hall -> hall.move(0, -1, 0, 1));
        refuses(written, INDEX, "no other bin, full journal", hall -> hall.move(0, 7, -1, 1));
        refuses(room, INDEX, "no other bin, fewer units", hall -> hall.move(0, 8, 40, 1));
        refuses(room, INDEX, "no bin, the same", hall -> hall.move(0, 40, 40, 1));
        refuses(room, INDEX, "no lot, the same bin", hall -> hall.move(2, 7, 7, 1));
        refuses(room, INDEX, "no lot, bin too small", hall -> hall.move(2, 7, 8, 1));
        refuses(written, ARGUMENT, "quantity, full journal", hall -> hall.move(0, 7, 0, 0));
        refuses(room, ARGUMENT, "quantity, fewer units", hall -> hall.move(0, 7, 0, 31));
        refuses(room, ARGUMENT, "quantity, the same bin", hall -> hall.move(0, 7, 7, 0));
        refuses(room, ARGUMENT, "quantity, bin too small", hall -> hall.move(1, 8, 7, 31));
        refuses(written, STATE, "full journal, fewer units", hall -> hall.move(0, 8, 0, 1));
        refuses(written, STATE, "full journal, the same bin", hall -> hall.move(0, 7, 7, 1));
        refuses(written, STATE, "full journal, bin too small", hall -> hall.move(0, 7, 8, 1));
        refuses(room, NO_ELEMENT, "fewer units, the same bin", hall -> hall.move(0, 7, 7, 21));
        refuses(room, NO_ELEMENT, "none, the same bin", hall -> hall.move(0, 9, 9, 1));
        refuses(room, NO_ELEMENT, "fewer units, bin too small", hall -> hall.move(0, 7, 8, 21));
    }

    // Disposing

    /** On the day 5, the lot 0 expired yesterday and is in three bins, the lot 1 expires today. */
    private static Hall yesterday() {
        Hall hall = Check.hallWith("AB");
        hall.receive(0, 12, 4, 18);
        hall.receive(0, 7, 5, 18);
        hall.move(0, 18, 12, 3);
        hall.move(0, 18, 9, 2);
        hall.receive(1, 1, 0, 30);
        hall.pass(5);
        return hall;
    }

    private static Hall yesterdayWith(int left) {
        return leaveEntries(yesterday(), left, 1, 18, 39);
    }

    private static void promise6AllUnits() {
        Hall hall = yesterday();
        hall.dispose(0);
        for (int bin = 0; bin < 40; bin++) {
            same("stock(0, " + bin + ")", hall.stock(0, bin), 0);
        }
        same("another lot in the bin", hall.stock(1, 18), 7);
        same("load", hall.load(18), 7);
        same("another expired lot", hall.expired(1), 1);
        same("expired", hall.expired(0), 0);
        same("entries", hall.entries(), 8);
        same("the lots stay", hall.lots(), 3);
    }

    private static void promise6Number() {
        accepts(GoodsEdgesTest::yesterday, 12, "in three bins", hall -> hall.dispose(0));
        accepts(GoodsEdgesTest::yesterday, 1, "one unit", hall -> hall.dispose(2));
        Scene sixty = () -> {
            Hall hall = Check.hallWith("A");
            hall.receive(0, 30, 0, 1);
            hall.count(2, 0, 30);
            hall.pass(1);
            return hall;
        };
        accepts(sixty, 60, "two full bins", hall -> hall.dispose(0));
    }

    private static void promise6NoSuchLot() {
        refuses(GoodsEdgesTest::yesterday, INDEX, "lot -1", hall -> hall.dispose(-1));
        accepts(GoodsEdgesTest::yesterday, 12, "lot 0", hall -> hall.dispose(0));
        accepts(GoodsEdgesTest::yesterday, 1, "lot 2", hall -> hall.dispose(2));
        refuses(GoodsEdgesTest::yesterday, INDEX, "lot 3", hall -> hall.dispose(3));
        refuses(Hall::new, INDEX, "lot 0 of none", hall -> hall.dispose(0));
    }

    private static void promise6NoUnits() {
        Scene counted = () -> {
            Hall hall = yesterday();
            hall.count(30, 2, 0);
            return hall;
        };
        Scene disposed = () -> {
            Hall hall = yesterday();
            hall.dispose(0);
            return hall;
        };
        Scene picked = () -> {
            Hall hall = Check.hallWith("A");
            hall.receive(0, 2, 0, 5);
            hall.promise(0, 2, 0, false);
            hall.pick(0);
            hall.pass(1);
            return hall;
        };
        refuses(counted, NO_ELEMENT, "a lot of which none was found", hall -> hall.dispose(2));
        refuses(disposed, NO_ELEMENT, "a lot that was disposed of", hall -> hall.dispose(0));
        refuses(picked, NO_ELEMENT, "a lot that was picked", hall -> hall.dispose(0));
        accepts(GoodsEdgesTest::yesterday, 1, "a lot with one unit", hall -> hall.dispose(2));
    }

    private static void promise6NotExpired() {
        accepts(GoodsEdgesTest::yesterday, 12, "expired yesterday", hall -> hall.dispose(0));
        refuses(GoodsEdgesTest::yesterday, UNSUPPORTED, "expires today", hall -> hall.dispose(1));
        refuses(GoodsEdgesTest::dayFive, UNSUPPORTED, "expires later", hall -> hall.dispose(0));
        Hall hall = yesterday();
        hall.pass(1);
        same("expired a day later", hall.dispose(1), 7);
    }

    private static void promise6Journal() {
        accepts(() -> yesterdayWith(3), 12, "three bins, three entries left", hall -> hall.dispose(0));
        refuses(() -> yesterdayWith(2), STATE, "three bins, two entries left", hall -> hall.dispose(0));
        Scene firstAndLast = () -> {
            Hall hall = yesterday();
            hall.receive(1, 2, 5, 0);
            hall.move(3, 0, 39, 1);
            hall.pass(1);
            return hall;
        };
        accepts(() -> leaveEntries(firstAndLast.make(), 2, 1, 18, 38), 2, "two bins, two entries left",
                hall -> hall.dispose(3));
        refuses(() -> leaveEntries(firstAndLast.make(), 1, 1, 18, 38), STATE,
                "two bins, one entry left", hall -> hall.dispose(3));
        accepts(() -> yesterdayWith(1), 1, "one bin, one entry left", hall -> hall.dispose(2));
        refuses(() -> yesterdayWith(0), STATE, "one bin, a full journal", hall -> hall.dispose(2));
    }

    private static void promise6FirstListed() {
        Scene counted = () -> {
            Hall hall = dayFive();
            hall.count(7, 0, 0);
            return hall;
        };
        refuses(counted, NO_ELEMENT, "no units, not expired", hall -> hall.dispose(0));
        refuses(() -> journalWith(0), INDEX, "no lot, full journal", hall -> hall.dispose(2));
        refuses(() -> leaveEntries(counted.make(), 0, 1, 8, 39), NO_ELEMENT, "no units, not expired, full journal",
                hall -> hall.dispose(0));
        refuses(() -> journalWith(0), UNSUPPORTED, "not expired, full journal", hall -> hall.dispose(0));
    }

    // Counting

    private static void promise7Counts() {
        Hall hall = mixed();
        hall.count(3, 0, 8);
        same("more: stock", hall.stock(0, 3), 8);
        same("the other lot", hall.stock(1, 3), 9);
        same("the other bin", hall.stock(0, 4), 15);
        same("more: entry", entry(hall, 3), "c lot 0 from -1 to 3 of 3");
        hall.count(3, 0, 0);
        same("none: stock", hall.stock(0, 3), 0);
        same("none: entry", entry(hall, 4), "c lot 0 from 3 to -1 of 8");
        hall.count(39, 1, 30);
        same("where none was: stock", hall.stock(1, 39), 30);
        same("where none was: entry", entry(hall, 5), "c lot 1 from -1 to 39 of 30");
        hall.count(39, 1, 30);
        same("the same: entries", hall.entries(), 6);
    }

    private static Hall promised(int promises) {
        Hall hall = Check.hallWith("A");
        hall.receive(0, 20, 50, 7);
        for (int promise = 0; promise < promises; promise++) {
            hall.promise(0, 1, 20, false);
        }
        return hall;
    }

    private static void promise7Number() {
        accepts(() -> promised(20), 0, "all are there", hall -> hall.count(7, 0, 20));
        accepts(() -> promised(20), 1, "one is missing", hall -> hall.count(7, 0, 19));
        accepts(() -> promised(20), 20, "none is there", hall -> hall.count(7, 0, 0));
        accepts(() -> promised(19), 0, "one more than is promised", hall -> hall.count(7, 0, 19));
        accepts(() -> promised(19), 1, "one less than is promised", hall -> hall.count(7, 0, 18));
        accepts(() -> promised(0), 0, "nothing is promised", hall -> hall.count(7, 0, 0));
        accepts(() -> promised(20), 0, "more than all", hall -> hall.count(7, 0, 30));
    }

    private static void promise7NoSuchBinOrLot() {
        Scene scene = GoodsEdgesTest::dayFive;
        refuses(scene, INDEX, "bin -1", hall -> hall.count(-1, 0, 1));
        accepts(scene, 0, "bin 0", hall -> hall.count(0, 0, 1));
        accepts(scene, 0, "bin 39", hall -> hall.count(39, 0, 1));
        refuses(scene, INDEX, "bin 40", hall -> hall.count(40, 0, 1));
        refuses(scene, INDEX, "lot -1", hall -> hall.count(7, -1, 1));
        accepts(scene, 0, "lot 0", hall -> hall.count(7, 0, 1));
        accepts(scene, 0, "lot 1", hall -> hall.count(7, 1, 1));
        refuses(scene, INDEX, "lot 2", hall -> hall.count(7, 2, 1));
        refuses(Hall::new, INDEX, "lot 0 of none", hall -> hall.count(7, 0, 0));
        accepts(() -> lots(24), 0, "lot 23 of 24", hall -> hall.count(39, 23, 1));
        refuses(() -> lots(24), INDEX, "lot 24 of 24", hall -> hall.count(39, 24, 1));
    }

    private static void promise7Found() {
        Scene scene = GoodsEdgesTest::dayFive;
        refuses(scene, ARGUMENT, "found -1", hall -> hall.count(7, 0, -1));
        accepts(scene, 0, "found 0", hall -> hall.count(7, 0, 0));
        accepts(scene, 0, "found 30", hall -> hall.count(7, 0, 30));
        refuses(scene, ARGUMENT, "found 31", hall -> hall.count(7, 0, 31));
        accepts(scene, 0, "found 0 where none is", hall -> hall.count(0, 0, 0));
        refuses(scene, ARGUMENT, "found 31 where none is", hall -> hall.count(0, 0, 31));
    }

    private static void promise7BinSpace() {
        Scene scene = GoodsEdgesTest::mixed;
        accepts(scene, 0, "21 beside 9", hall -> hall.count(3, 0, 21));
        refuses(scene, UNSUPPORTED, "22 beside 9", hall -> hall.count(3, 0, 22));
        accepts(scene, 0, "25 beside 5", hall -> hall.count(3, 1, 25));
        refuses(scene, UNSUPPORTED, "26 beside 5", hall -> hall.count(3, 1, 26));
        accepts(GoodsEdgesTest::dayFive, 0, "10 beside 20", hall -> hall.count(7, 1, 10));
        refuses(GoodsEdgesTest::dayFive, UNSUPPORTED, "11 beside 20", hall -> hall.count(7, 1, 11));
        refuses(GoodsEdgesTest::dayFive, UNSUPPORTED, "1 beside 30", hall -> hall.count(8, 0, 1));
        accepts(GoodsEdgesTest::dayFive, 0, "0 beside 30", hall -> hall.count(8, 0, 0));
        accepts(GoodsEdgesTest::dayFive, 0, "30 in a full bin", hall -> hall.count(8, 1, 30));
    }

    private static void promise7EntryNeeded() {
        for (int found : new int[] {0, 1, 29}) {
            accepts(() -> journalWith(1), 0, "less, one entry left", hall -> hall.count(8, 1, found));
            refuses(() -> journalWith(0), STATE, "less, full journal", hall -> hall.count(8, 1, found));
        }
        accepts(() -> journalWith(1), 0, "more, one entry left", hall -> hall.count(20, 1, 1));
        refuses(() -> journalWith(0), STATE, "more, full journal", hall -> hall.count(20, 1, 1));
        Scene broken = () -> {
            Hall hall = dayFive();
            hall.promise(1, 30, 20, false);
            return leaveEntries(hall, 0, 0, 7, 39);
        };
        refuses(broken, STATE, "less than is promised, full journal", hall -> hall.count(8, 1, 29));
    }

    private static void promise7NoEntryNeeded() {
        accepts(() -> journalWith(0), 0, "the same", hall -> hall.count(8, 1, 30));
        accepts(() -> journalWith(0), 0, "none where none is", hall -> hall.count(20, 1, 0));
        Hall hall = journalWith(0);
        hall.pass(3);
        hall.count(8, 1, 30);
        same("the day of the next count", hall.countDay(8), 18);
        same("entries", hall.entries(), 150);
    }

    private static void promise7FirstListed() {
        Scene room = GoodsEdgesTest::dayFive;
        Scene written = () -> journalWith(0);
        refuses(room, INDEX, "no bin, found", hall -> hall.count(40, 0, 31));
        refuses(room, INDEX, "no lot, found", hall -> hall.count(7, 2, -1));
        refuses(room, INDEX, "no lot, bin too small", hall -> hall.count(8, 2, 1));
        refuses(written, INDEX, "no bin, full journal", hall -> hall.count(-1, 0, 1));
        refuses(written, INDEX, "no lot, full journal", hall -> hall.count(7, -1, 1));
        refuses(room, ARGUMENT, "found, bin too small", hall -> hall.count(8, 0, 31));
        refuses(written, ARGUMENT, "found too few, full journal", hall -> hall.count(8, 1, -1));
        refuses(written, ARGUMENT, "found too many, full journal", hall -> hall.count(8, 1, 31));
        refuses(written, UNSUPPORTED, "bin too small, full journal", hall -> hall.count(8, 0, 1));
    }
}
