import java.util.NoSuchElementException;

/** Promises 26 to 32. */
public final class StocksTest {
    private static final Check CHECK = new Check();
    private static final Class<IndexOutOfBoundsException> INDEX = IndexOutOfBoundsException.class;
    private static final Class<NoSuchElementException> NO_ELEMENT = NoSuchElementException.class;

    public static void main(String[] args) {
        stock();
        wrongStock();
        nextLot();
        onHandAndExpired();
        CHECK.end("StocksTest");
    }

    private static void stock(Hall hall, int lot, int bin, int due) {
        CHECK.same("stock(" + lot + ", " + bin + ")", hall.stock(lot, bin), due);
        CHECK.same("stockByJournal(" + lot + ", " + bin + ")", hall.stockByJournal(lot, bin), due);
    }

    private static void stock() {
        Hall hall = Check.hallWith("AB");
        hall.receive(0, 20, 3, 7);
        hall.receive(1, 10, 30, 7);
        stock(hall, 0, 7, 20);
        stock(hall, 1, 7, 10);
        stock(hall, 0, 8, 0);
        CHECK.same("load", hall.load(7), 30);
        hall.move(0, 7, 8, 6);
        stock(hall, 0, 7, 14);
        stock(hall, 0, 8, 6);
        hall.promise(0, 8, 2, false);
        stock(hall, 0, 7, 14);
        hall.pick(0);
        stock(hall, 0, 7, 6);
        stock(hall, 0, 8, 6);
        hall.count(8, 0, 9);
        stock(hall, 0, 8, 9);
        hall.count(7, 1, 4);
        stock(hall, 1, 7, 4);
        CHECK.same("load", hall.load(7), 10);
        CHECK.same("load", hall.load(8), 9);
        hall.pass(4);
        hall.dispose(0);
        stock(hall, 0, 7, 0);
        stock(hall, 0, 8, 0);
        stock(hall, 1, 7, 4);
        CHECK.same("load", hall.load(7), 4);
        CHECK.same("lots", hall.lots(), 2);
    }

    private static void wrongStock() {
        Hall hall = Check.hallWith("A");
        hall.receive(0, 20, 3, 7);
        for (int wrong : new int[] {-1, 1, 24, Integer.MAX_VALUE, Integer.MIN_VALUE}) {
            CHECK.refuses("stock", hall, INDEX, () -> hall.stock(wrong, 7));
            CHECK.refuses("stockByJournal", hall, INDEX, () -> hall.stockByJournal(wrong, 7));
            CHECK.refuses("nextLot", hall, INDEX, () -> hall.nextLot(wrong, 0));
            CHECK.refuses("onHand", hall, INDEX, () -> hall.onHand(wrong));
            CHECK.refuses("expired", hall, INDEX, () -> hall.expired(wrong));
        }
        for (int wrong : new int[] {-1, 40, Integer.MAX_VALUE, Integer.MIN_VALUE}) {
            CHECK.refuses("stock", hall, INDEX, () -> hall.stock(0, wrong));
            CHECK.refuses("stockByJournal", hall, INDEX, () -> hall.stockByJournal(0, wrong));
            CHECK.refuses("load", hall, INDEX, () -> hall.load(wrong));
        }
    }

    private static void nextLot() {
        Hall hall = Check.hallWith("AB");
        CHECK.refuses("no lots", hall, NO_ELEMENT, () -> hall.nextLot(0, 0));
        hall.receive(0, 5, 20, 0);
        hall.receive(0, 5, 10, 1);
        hall.receive(0, 5, 10, 2);
        hall.receive(1, 5, 5, 3);
        CHECK.same("the first to expire", hall.nextLot(0, 0), 1);
        CHECK.same("on the day", hall.nextLot(0, 10), 1);
        CHECK.same("a day later", hall.nextLot(0, 11), 0);
        CHECK.same("the other item", hall.nextLot(1, 5), 3);
        CHECK.same("long ago", hall.nextLot(0, Integer.MIN_VALUE), 1);
        CHECK.refuses("too late", hall, NO_ELEMENT, () -> hall.nextLot(0, 21));
        CHECK.refuses("much too late", hall, NO_ELEMENT, () -> hall.nextLot(0, Integer.MAX_VALUE));
        hall.count(1, 1, 0);
        CHECK.same("the first one has no units", hall.nextLot(0, 0), 2);
        hall.count(1, 1, 1);
        CHECK.same("the first one has a unit", hall.nextLot(0, 0), 1);
        hall.count(1, 1, 0);
        hall.pass(30);
        CHECK.same("expired", hall.nextLot(0, 5), 2);
        CHECK.same("expired too", hall.nextLot(0, 20), 0);
    }

    private static void onHandAndExpired() {
        Hall hall = Check.hallWith("AB");
        hall.receive(0, 5, 2, 0);
        hall.receive(0, 6, 3, 0);
        hall.receive(1, 7, 2, 0);
        CHECK.same("on hand", hall.onHand(0), 11);
        CHECK.same("expired", hall.expired(0), 0);
        hall.pass(2);
        CHECK.same("on hand on the last day", hall.onHand(0), 11);
        CHECK.same("expired on the last day", hall.expired(0), 0);
        hall.pass(1);
        CHECK.same("on hand", hall.onHand(0), 6);
        CHECK.same("expired", hall.expired(0), 5);
        CHECK.same("on hand of the other", hall.onHand(1), 0);
        CHECK.same("expired of the other", hall.expired(1), 7);
        hall.dispose(0);
        CHECK.same("disposed", hall.expired(0), 0);
        hall.pass(1);
        CHECK.same("expired", hall.expired(0), 6);
    }
}
