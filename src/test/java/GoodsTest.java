import java.util.NoSuchElementException;

/** Promises 4 to 7. */
public final class GoodsTest {
    private static final Check CHECK = new Check();
    private static final Class<IndexOutOfBoundsException> INDEX = IndexOutOfBoundsException.class;
    private static final Class<IllegalArgumentException> ARGUMENT = IllegalArgumentException.class;
    private static final Class<IllegalStateException> STATE = IllegalStateException.class;
    private static final Class<NoSuchElementException> NO_ELEMENT = NoSuchElementException.class;
    private static final Class<UnsupportedOperationException> UNSUPPORTED = UnsupportedOperationException.class;

    public static void main(String[] args) {
        receive();
        wrongReceive();
        lotsAreFull();
        move();
        wrongMove();
        dispose();
        wrongDispose();
        disposeWithFullJournal();
        count();
        wrongCount();
        countBreaksHighestNumber();
        countBreaksForGreatestDayFirst();
        countBreaksOnlyWhoNeedsTheItem();
        fullJournal();
        CHECK.end("GoodsTest");
    }

    private static Hall hallWithItems() {
        return Check.hallWith("AB");
    }

    /** Moves one unit of the lot to and fro until so many entries are left. */
    static void fillJournal(Hall hall, int lot, int bin, int other, int left) {
        int missing = 150 - left - hall.entries();
        for (int made = 0; made < missing; made++) {
            boolean there = made % 2 == 1;
            hall.move(lot, there ? other : bin, there ? bin : other, 1);
        }
    }

    static void entry(Hall hall, int entry, String due) {
        String got = hall.entryKind(entry) + " lot " + hall.entryLot(entry) + " from " + hall.entryFrom(entry)
                + " to " + hall.entryTo(entry) + " of " + hall.entryQuantity(entry);
        CHECK.same("entry " + entry, got, due);
    }

    private static void receive() {
        Hall hall = hallWithItems();
        CHECK.same("lot 0", hall.receive(0, 30, 0, 0), 0);
        CHECK.same("lot 1", hall.receive(1, 1, 99, 39), 1);
        CHECK.same("lot 2", hall.receive(0, 29, 5, 39), 2);
        CHECK.same("lots", hall.lots(), 3);
        CHECK.same("load", hall.load(39), 30);
        CHECK.same("stock", hall.stock(2, 39), 29);
        CHECK.same("on hand", hall.onHand(0), 59);
        entry(hall, 0, "r lot 0 from -1 to 0 of 30");
        entry(hall, 2, "r lot 2 from -1 to 39 of 29");
        hall.pass(10);
        CHECK.same("later", hall.receive(0, 1, 109, 1), 3);
        CHECK.same("later, today", hall.receive(0, 1, 10, 1), 4);
    }

    private static void wrongReceive() {
        Hall hall = hallWithItems();
        hall.receive(0, 20, 50, 7);
        hall.pass(3);
        CHECK.refuses("item -1", hall, INDEX, () -> hall.receive(-1, 0, 10, 7));
        CHECK.refuses("item 2", hall, INDEX, () -> hall.receive(2, 1, 0, 7));
        CHECK.refuses("bin -1", hall, INDEX, () -> hall.receive(0, 31, 10, -1));
        CHECK.refuses("bin 40", hall, INDEX, () -> hall.receive(0, 1, 103, 40));
        CHECK.refuses("quantity 0", hall, ARGUMENT, () -> hall.receive(0, 0, 10, 7));
        CHECK.refuses("quantity 31", hall, ARGUMENT, () -> hall.receive(0, 31, 10, 7));
        CHECK.refuses("expiry 2", hall, ARGUMENT, () -> hall.receive(0, 11, 2, 7));
        CHECK.refuses("expiry 103", hall, ARGUMENT, () -> hall.receive(0, 11, 103, 7));
        CHECK.refuses("expiry far off", hall, ARGUMENT, () -> hall.receive(0, 1, Integer.MAX_VALUE, 8));
        CHECK.refuses("31 in the bin", hall, UNSUPPORTED, () -> hall.receive(1, 11, 10, 7));
        CHECK.same("30 in the bin", hall.receive(1, 10, 3, 7), 1);
    }

    private static void lotsAreFull() {
        Hall hall = hallWithItems();
        for (int lot = 0; lot < 24; lot++) {
            CHECK.same("receive", hall.receive(lot % 2, 15, 20, lot / 2), lot);
        }
        CHECK.refuses("a lot too many", hall, STATE, () -> hall.receive(0, 1, 20, 30));
        CHECK.refuses("a lot too many in a full bin", hall, STATE, () -> hall.receive(0, 1, 20, 0));
        CHECK.refuses("a lot too many of 0 units", hall, ARGUMENT, () -> hall.receive(0, 0, 20, 30));
        CHECK.refuses("a lot too many, too lasting", hall, ARGUMENT, () -> hall.receive(0, 1, 100, 30));
        CHECK.refuses("a lot too many in no bin", hall, INDEX, () -> hall.receive(0, 1, 20, 40));
    }

    private static void move() {
        Hall hall = hallWithItems();
        hall.receive(0, 30, 1, 3);
        hall.receive(1, 20, 9, 4);
        CHECK.same("move", hall.move(0, 3, 4, 4), 4);
        CHECK.same("move again", hall.move(0, 3, 4, 6), 10);
        CHECK.same("stock before", hall.stock(0, 3), 20);
        CHECK.same("stock behind", hall.stock(0, 4), 10);
        CHECK.same("load before", hall.load(3), 20);
        CHECK.same("load behind", hall.load(4), 30);
        entry(hall, 3, "m lot 0 from 3 to 4 of 6");
        hall.pass(5);
        CHECK.same("an expired lot", hall.move(0, 3, 39, 20), 20);
        CHECK.same("nothing left", hall.stock(0, 3), 0);
        CHECK.same("entries", hall.entries(), 5);
    }

    private static void wrongMove() {
        Hall hall = hallWithItems();
        hall.receive(0, 20, 9, 3);
        hall.receive(1, 25, 9, 4);
        CHECK.refuses("lot -1", hall, INDEX, () -> hall.move(-1, 3, 4, 0));
        CHECK.refuses("lot 2", hall, INDEX, () -> hall.move(2, 3, 4, 31));
        CHECK.refuses("from -1", hall, INDEX, () -> hall.move(0, -1, 4, 0));
        CHECK.refuses("from 40", hall, INDEX, () -> hall.move(0, 40, 4, 31));
        CHECK.refuses("to -1", hall, INDEX, () -> hall.move(0, 3, -1, 0));
        CHECK.refuses("to 40", hall, INDEX, () -> hall.move(0, 3, 40, 21));
        CHECK.refuses("quantity 0", hall, ARGUMENT, () -> hall.move(0, 3, 3, 0));
        CHECK.refuses("quantity 31", hall, ARGUMENT, () -> hall.move(0, 3, 4, 31));
        CHECK.refuses("too few units", hall, NO_ELEMENT, () -> hall.move(0, 3, 4, 21));
        CHECK.refuses("too few units, the same bin", hall, NO_ELEMENT, () -> hall.move(0, 3, 3, 21));
        CHECK.refuses("a lot that is elsewhere", hall, NO_ELEMENT, () -> hall.move(0, 4, 3, 1));
        CHECK.refuses("the same bin", hall, UNSUPPORTED, () -> hall.move(0, 3, 3, 20));
        CHECK.refuses("31 in the bin", hall, UNSUPPORTED, () -> hall.move(0, 3, 4, 6));
        CHECK.same("30 in the bin", hall.move(0, 3, 4, 5), 5);
    }

    private static void dispose() {
        Hall hall = hallWithItems();
        hall.receive(0, 12, 4, 18);
        hall.receive(0, 7, 5, 18);
        hall.move(0, 18, 12, 3);
        hall.move(0, 18, 9, 2);
        hall.pass(5);
        CHECK.same("dispose", hall.dispose(0), 12);
        CHECK.same("entries", hall.entries(), 7);
        entry(hall, 4, "d lot 0 from 9 to -1 of 2");
        entry(hall, 5, "d lot 0 from 18 to -1 of 7");
        entry(hall, 6, "d lot 0 from 12 to -1 of 3");
        CHECK.same("load", hall.load(18), 7);
        CHECK.same("expired", hall.expired(0), 0);
        CHECK.same("on hand", hall.onHand(0), 7);
    }

    private static void wrongDispose() {
        Hall hall = hallWithItems();
        hall.receive(0, 2, 4, 18);
        hall.receive(0, 2, 9, 19);
        hall.count(19, 1, 0);
        hall.pass(4);
        CHECK.refuses("lot -1", hall, INDEX, () -> hall.dispose(-1));
        CHECK.refuses("lot 2", hall, INDEX, () -> hall.dispose(2));
        CHECK.refuses("on its last day", hall, UNSUPPORTED, () -> hall.dispose(0));
        CHECK.refuses("no units, not expired", hall, NO_ELEMENT, () -> hall.dispose(1));
        hall.pass(1);
        CHECK.same("a day later", hall.dispose(0), 2);
        CHECK.refuses("once more", hall, NO_ELEMENT, () -> hall.dispose(0));
    }

    private static void disposeWithFullJournal() {
        Hall hall = hallWithItems();
        hall.receive(0, 9, 0, 1);
        hall.receive(0, 9, 50, 2);
        hall.receive(0, 1, 0, 4);
        hall.move(0, 1, 0, 4);
        hall.move(0, 1, 3, 4);
        fillJournal(hall, 1, 2, 20, 2);
        CHECK.refuses("not expired, no space", hall, UNSUPPORTED, () -> hall.dispose(0));
        hall.pass(1);
        CHECK.refuses("three entries for two places", hall, STATE, () -> hall.dispose(0));
        CHECK.same("one entry", hall.dispose(2), 1);
        Hall just = hallWithItems();
        just.receive(0, 9, 0, 1);
        just.receive(0, 9, 50, 2);
        just.move(0, 1, 0, 4);
        just.move(0, 1, 3, 4);
        fillJournal(just, 1, 2, 20, 3);
        just.pass(1);
        CHECK.same("three entries for three places", just.dispose(0), 9);
        CHECK.same("entries", just.entries(), 150);
    }

    private static void count() {
        Hall hall = hallWithItems();
        hall.receive(0, 10, 50, 5);
        hall.receive(1, 10, 50, 5);
        hall.pass(4);
        CHECK.same("more", hall.count(5, 0, 20), 0);
        CHECK.same("load", hall.load(5), 30);
        CHECK.same("stock", hall.stock(0, 5), 20);
        entry(hall, 2, "c lot 0 from -1 to 5 of 10");
        CHECK.same("counted today", hall.countDay(5), 9);
        hall.pass(1);
        CHECK.same("less", hall.count(5, 0, 3), 0);
        entry(hall, 3, "c lot 0 from 5 to -1 of 17");
        hall.pass(1);
        CHECK.same("the same", hall.count(5, 0, 3), 0);
        CHECK.same("no entry", hall.entries(), 4);
        CHECK.same("counted today", hall.countDay(5), 11);
        CHECK.same("in another bin", hall.count(30, 0, 30), 0);
        CHECK.same("stock there", hall.stock(0, 30), 30);
        CHECK.same("on hand", hall.onHand(0), 33);
        CHECK.same("one more", hall.count(5, 0, 4), 0);
        CHECK.same("stock", hall.stock(0, 5), 4);
        CHECK.same("one less", hall.count(5, 0, 3), 0);
        CHECK.same("stock", hall.stock(0, 5), 3);
        CHECK.same("nothing in an empty bin", hall.count(31, 0, 0), 0);
        hall.receive(0, 1, 50, 31);
        CHECK.same("the empty bin was counted", hall.countDay(31), 11);
    }

    private static void wrongCount() {
        Hall hall = hallWithItems();
        hall.receive(0, 10, 50, 5);
        hall.receive(1, 12, 50, 5);
        CHECK.refuses("bin -1", hall, INDEX, () -> hall.count(-1, 0, 31));
        CHECK.refuses("bin 40", hall, INDEX, () -> hall.count(40, 0, -1));
        CHECK.refuses("lot -1", hall, INDEX, () -> hall.count(5, -1, 31));
        CHECK.refuses("lot 2", hall, INDEX, () -> hall.count(5, 2, -1));
        CHECK.refuses("found -1", hall, ARGUMENT, () -> hall.count(5, 0, -1));
        CHECK.refuses("found 31", hall, ARGUMENT, () -> hall.count(5, 0, 31));
        CHECK.refuses("31 in the bin", hall, UNSUPPORTED, () -> hall.count(5, 0, 19));
        fillJournal(hall, 1, 5, 6, 1);
        CHECK.same("the last entry", hall.count(7, 0, 1), 0);
        int inBin = hall.load(5) - 10;
        CHECK.refuses("too much and no space", hall, UNSUPPORTED, () -> hall.count(5, 0, 31 - inBin));
        CHECK.refuses("no space", hall, STATE, () -> hall.count(5, 0, 9));
        hall.pass(2);
        CHECK.same("no entry needed", hall.count(5, 0, 10), 0);
        CHECK.same("counted today", hall.countDay(5), 7);
    }

    private static void countBreaksHighestNumber() {
        Hall hall = hallWithItems();
        hall.receive(0, 10, 50, 5);
        hall.promise(0, 4, 20, false);
        hall.promise(0, 3, 20, false);
        hall.promise(0, 3, 20, false);
        CHECK.same("one is broken", hall.count(5, 0, 9), 1);
        CHECK.same("the last", hall.status(2), 'b');
        CHECK.same("not the second", hall.status(1), 'o');
        CHECK.same("enough for two", hall.count(5, 0, 7), 0);
        CHECK.same("two are broken", hall.count(5, 0, 0), 2);
        CHECK.same("the second", hall.status(1), 'b');
        CHECK.same("the first", hall.status(0), 'b');
    }

    private static void countBreaksForGreatestDayFirst() {
        Hall hall = hallWithItems();
        hall.receive(0, 5, 40, 5);
        hall.receive(0, 5, 10, 6);
        hall.promise(0, 5, 30, false);
        hall.promise(0, 5, 10, false);
        CHECK.same("one is broken", hall.count(5, 0, 4), 1);
        CHECK.same("the late one", hall.status(0), 'b');
        CHECK.same("not the early one", hall.status(1), 'o');

        Hall both = hallWithItems();
        both.receive(0, 5, 40, 5);
        both.receive(0, 5, 10, 6);
        both.promise(0, 5, 30, false);
        both.promise(0, 5, 10, false);
        CHECK.same("early goods are missing", both.count(6, 1, 4), 1);
        CHECK.same("the late one stays", both.status(0), 'o');
        CHECK.same("the last one is broken", both.status(1), 'b');

        Hall last = hallWithItems();
        last.receive(0, 3, 60, 5);
        last.promise(0, 3, 60, false);
        CHECK.same("due as late as can be", last.count(5, 0, 2), 1);

        Hall today = hallWithItems();
        today.receive(0, 3, 60, 5);
        today.promise(0, 3, 0, false);
        CHECK.same("due today", today.count(5, 0, 2), 1);
    }

    private static void countBreaksOnlyWhoNeedsTheItem() {
        Hall hall = hallWithItems();
        hall.addSubstitute(0, 1, 1);
        hall.receive(0, 5, 40, 5);
        hall.receive(1, 9, 40, 6);
        hall.promise(0, 7, 30, true);
        hall.promise(1, 4, 30, false);
        CHECK.same("one is broken", hall.count(5, 0, 0), 1);
        CHECK.same("who needs the item", hall.status(0), 'b');
        CHECK.same("who does not", hall.status(1), 'o');
        CHECK.same("its other units are free", hall.available(1, 30), 5);
        hall.pass(1);
        hall.receive(0, 5, 40, 7);
        hall.promise(0, 5, 30, false);
        hall.cancel(2);
        CHECK.same("a cancelled one is not broken", hall.count(7, 2, 0), 0);
    }

    private static void fullJournal() {
        Hall hall = hallWithItems();
        hall.receive(0, 10, 50, 5);
        fillJournal(hall, 0, 5, 6, 1);
        CHECK.same("the last entry", hall.receive(1, 1, 50, 8), 1);
        CHECK.same("entries", hall.entries(), 150);
        CHECK.refuses("receive", hall, STATE, () -> hall.receive(1, 30, 50, 8));
        CHECK.refuses("receive of 31", hall, ARGUMENT, () -> hall.receive(1, 31, 50, 8));
        CHECK.refuses("move", hall, STATE, () -> hall.move(1, 8, 9, 1));
        CHECK.refuses("move of too many", hall, STATE, () -> hall.move(1, 8, 8, 2));
        CHECK.refuses("move of 31", hall, ARGUMENT, () -> hall.move(1, 8, 8, 31));

        Hall moving = hallWithItems();
        moving.receive(0, 10, 50, 5);
        fillJournal(moving, 0, 5, 6, 1);
        CHECK.same("the last entry", moving.move(0, 5, 7, 2), 2);
        CHECK.same("entries", moving.entries(), 150);
    }
}
