import java.util.NoSuchElementException;

/** Promises 33 to 40. */
public final class JournalTest {
    private static final Check CHECK = new Check();
    private static final Class<IndexOutOfBoundsException> INDEX = IndexOutOfBoundsException.class;
    private static final Class<IllegalArgumentException> ARGUMENT = IllegalArgumentException.class;
    private static final Class<NoSuchElementException> NO_ELEMENT = NoSuchElementException.class;

    public static void main(String[] args) {
        entries();
        wrongEntries();
        onHandOn();
        wrongOnHandOn();
        served();
        CHECK.end("JournalTest");
    }

    private static void entry(Hall hall, int entry, char kind, int... due) {
        CHECK.same("kind of " + entry, hall.entryKind(entry), kind);
        CHECK.same("lot of " + entry, hall.entryLot(entry), due[0]);
        CHECK.same("from of " + entry, hall.entryFrom(entry), due[1]);
        CHECK.same("to of " + entry, hall.entryTo(entry), due[2]);
        CHECK.same("quantity of " + entry, hall.entryQuantity(entry), due[3]);
    }

    private static void entries() {
        Hall hall = new Hall();
        hall.addItem('A');
        CHECK.same("none", hall.entries(), 0);
        hall.receive(0, 9, 8, 39);
        hall.receive(0, 8, 7, 0);
        hall.move(1, 0, 21, 2);
        hall.promise(0, 7, 6, false);
        CHECK.same("a promise makes none", hall.entries(), 3);
        hall.pick(0);
        hall.count(39, 0, 12);
        hall.count(39, 0, 11);
        hall.count(39, 0, 11);
        hall.pass(8);
        CHECK.same("days make none", hall.entries(), 7);
        hall.dispose(1);
        CHECK.same("entries", hall.entries(), 8);
        entry(hall, 0, 'r', 0, -1, 39, 9);
        entry(hall, 1, 'r', 1, -1, 0, 8);
        entry(hall, 2, 'm', 1, 0, 21, 2);
        entry(hall, 3, 'p', 1, 0, -1, 6);
        entry(hall, 4, 'p', 1, 21, -1, 1);
        entry(hall, 5, 'c', 0, -1, 39, 3);
        entry(hall, 6, 'c', 0, 39, -1, 1);
        entry(hall, 7, 'd', 1, 21, -1, 1);
    }

    private static void wrongEntries() {
        Hall hall = new Hall();
        hall.addItem('A');
        CHECK.refuses("no entry yet", hall, INDEX, () -> hall.entryKind(0));
        hall.receive(0, 9, 8, 39);
        for (int wrong : new int[] {-1, 1, 150, Integer.MAX_VALUE, Integer.MIN_VALUE}) {
            CHECK.refuses("entryKind", hall, INDEX, () -> hall.entryKind(wrong));
            CHECK.refuses("entryLot", hall, INDEX, () -> hall.entryLot(wrong));
            CHECK.refuses("entryFrom", hall, INDEX, () -> hall.entryFrom(wrong));
            CHECK.refuses("entryTo", hall, INDEX, () -> hall.entryTo(wrong));
            CHECK.refuses("entryQuantity", hall, INDEX, () -> hall.entryQuantity(wrong));
        }
    }

    private static void onHandOn() {
        Hall hall = new Hall();
        hall.addItem('A');
        hall.addItem('B');
        hall.receive(0, 9, 3, 39);
        hall.receive(1, 5, 9, 39);
        hall.pass(1);
        hall.receive(0, 8, 9, 0);
        hall.move(0, 39, 1, 3);
        hall.pass(1);
        hall.promise(0, 4, 2, false);
        hall.pick(0);
        hall.pass(1);
        hall.count(0, 2, 10);
        hall.count(1, 0, 0);
        hall.pass(1);
        hall.dispose(0);
        hall.pass(1);
        int[] due = {9, 17, 13, 15, 10, 10};
        for (int day = 0; day < due.length; day++) {
            CHECK.same("onHandOn(0, " + day + ")", hall.onHandOn(0, day), due[day]);
            CHECK.same("onHandOn(1, " + day + ")", hall.onHandOn(1, day), 5);
        }
        hall.pass(30);
        CHECK.same("expired units too", hall.onHandOn(0, 35), 10);
        hall.receive(0, 1, 99, 12);
        CHECK.same("today", hall.onHandOn(0, 35), 11);
        CHECK.same("the day before", hall.onHandOn(0, 34), 10);
    }

    private static void wrongOnHandOn() {
        Hall hall = new Hall();
        hall.addItem('A');
        hall.pass(2);
        CHECK.refuses("item -1", hall, INDEX, () -> hall.onHandOn(-1, -1));
        CHECK.refuses("item 1", hall, INDEX, () -> hall.onHandOn(1, 3));
        CHECK.refuses("day -1", hall, ARGUMENT, () -> hall.onHandOn(0, -1));
        CHECK.refuses("day 3", hall, ARGUMENT, () -> hall.onHandOn(0, 3));
        CHECK.same("day 2", hall.onHandOn(0, 2), 0);
    }

    private static void served() {
        Hall hall = new Hall();
        hall.addItem('A');
        hall.receive(0, 30, 50, 39);
        CHECK.refuses("no promises", hall, NO_ELEMENT, hall::served);
        for (int promise = 0; promise < 8; promise++) {
            hall.promise(0, 1, promise == 3 ? 0 : 5, false);
        }
        CHECK.refuses("all are open", hall, NO_ELEMENT, hall::served);
        hall.cancel(0);
        CHECK.same("none was picked", hall.served(), 0.0f);
        hall.pick(1);
        CHECK.same("one of two", hall.served(), 0.5f);
        hall.pick(2);
        CHECK.same("two of three", hall.served(), 2.0f / 3.0f);
        hall.pass(1);
        CHECK.same("one lapsed", hall.served(), 0.5f);
        hall.count(39, 0, 3);
        CHECK.same("one was broken", hall.served(), 0.4f);
        hall.pick(4);
        hall.pick(5);
        CHECK.same("four of seven", hall.served(), 4.0f / 7.0f);
        hall.pick(6);
        CHECK.same("five of eight", hall.served(), 5.0f / 8.0f);

        Hall all = new Hall();
        all.addItem('A');
        all.receive(0, 30, 50, 39);
        all.promise(0, 1, 5, false);
        all.pick(0);
        CHECK.same("all", all.served(), 1.0f);
    }
}
