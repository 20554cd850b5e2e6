import java.util.NoSuchElementException;

/** Promises 21 to 25. */
public final class DaysTest {
    private static final Check CHECK = new Check();
    private static final Class<IndexOutOfBoundsException> INDEX = IndexOutOfBoundsException.class;
    private static final Class<IllegalArgumentException> ARGUMENT = IllegalArgumentException.class;
    private static final Class<NoSuchElementException> NO_ELEMENT = NoSuchElementException.class;

    public static void main(String[] args) {
        pass();
        manyDays();
        countDay();
        nextCount();
        countsDue();
        CHECK.end("DaysTest");
    }

    private static void pass() {
        Hall hall = Check.hallWith("A");
        hall.receive(0, 20, 50, 0);
        hall.promise(0, 1, 0, false);
        hall.promise(0, 1, 1, false);
        hall.promise(0, 1, 2, false);
        hall.promise(0, 1, 1, false);
        hall.promise(0, 1, 1, false);
        hall.cancel(3);
        hall.pick(4);
        CHECK.refuses("pass(0)", hall, ARGUMENT, () -> hall.pass(0));
        CHECK.refuses("pass(31)", hall, ARGUMENT, () -> hall.pass(31));
        CHECK.refuses("pass(-1)", hall, ARGUMENT, () -> hall.pass(-1));
        CHECK.refuses("pass(MAX)", hall, ARGUMENT, () -> hall.pass(Integer.MAX_VALUE));
        CHECK.same("a day", hall.pass(1), 1);
        CHECK.same("day", hall.day(), 1);
        CHECK.same("lapsed", hall.status(0), 'l');
        CHECK.same("due today", hall.status(1), 'o');
        CHECK.same("nineteen less two", hall.available(0, 1), 17);
        CHECK.same("thirty days", hall.pass(30), 2);
        CHECK.same("day", hall.day(), 31);
        CHECK.same("lapsed too", hall.status(2), 'l');
        CHECK.same("cancelled still", hall.status(3), 'c');
        CHECK.same("picked still", hall.status(4), 'p');
        CHECK.same("nothing lapses twice", hall.pass(1), 0);
    }

    private static void manyDays() {
        Hall hall = Check.hallWith("A");
        for (int call = 0; call < 500; call++) {
            CHECK.same("pass", hall.pass(30), 0);
        }
        CHECK.same("day", hall.day(), 15000);
        CHECK.same("receive", hall.receive(0, 3, 15099, 4), 0);
        CHECK.same("promise", hall.promise(0, 3, 15060, false), 0);
        CHECK.same("on hand", hall.onHandOn(0, 14999), 0);
    }

    private static void countDay() {
        Hall hall = Check.hallWith("CBA");
        CHECK.refuses("bin -1", hall, INDEX, () -> hall.countDay(-1));
        CHECK.refuses("bin 40", hall, INDEX, () -> hall.countDay(40));
        CHECK.refuses("an empty bin", hall, NO_ELEMENT, () -> hall.countDay(0));
        hall.pass(3);
        hall.receive(0, 2, 5, 0);
        CHECK.same("category C", hall.countDay(0), 20);
        hall.receive(1, 2, 5, 0);
        CHECK.same("category B", hall.countDay(0), 10);
        hall.receive(2, 2, 5, 0);
        CHECK.same("category A", hall.countDay(0), 5);
        hall.pass(4);
        CHECK.same("expired units count too", hall.countDay(0), 5);
        hall.count(0, 2, 2);
        CHECK.same("counted", hall.countDay(0), 12);
        hall.move(2, 0, 1, 2);
        CHECK.same("without A", hall.countDay(0), 17);
        CHECK.same("the other bin was not counted", hall.countDay(1), 5);
        hall.dispose(1);
        CHECK.same("without B", hall.countDay(0), 27);
        hall.dispose(0);
        CHECK.refuses("empty again", hall, NO_ELEMENT, () -> hall.countDay(0));
    }

    private static void nextCount() {
        Hall hall = Check.hallWith("ABC");
        CHECK.refuses("all bins are empty", hall, NO_ELEMENT, hall::nextCount);
        hall.receive(2, 5, 50, 0);
        CHECK.same("the only one", hall.nextCount(), 0);
        hall.receive(1, 5, 50, 12);
        CHECK.same("earlier", hall.nextCount(), 12);
        hall.receive(1, 5, 50, 17);
        CHECK.same("first on the route", hall.nextCount(), 17);
        hall.receive(1, 5, 50, 25);
        CHECK.same("still first on the route", hall.nextCount(), 17);
        hall.pass(1);
        hall.count(17, 2, 5);
        CHECK.same("the next on the route", hall.nextCount(), 12);
        hall.count(12, 1, 0);
        CHECK.same("no longer empty ones", hall.nextCount(), 25);
        hall.receive(0, 5, 50, 39);
        hall.receive(0, 5, 50, 31);
        CHECK.same("falling positions", hall.nextCount(), 39);

        Hall single = Check.hallWith("A");
        single.receive(0, 1, 50, 8);
        CHECK.same("one unit", single.nextCount(), 8);
        single.pass(5);
        CHECK.same("one unit is due", single.countsDue(), 1);
    }

    private static void countsDue() {
        Hall hall = Check.hallWith("ABC");
        hall.receive(0, 5, 50, 0);
        hall.receive(1, 5, 50, 1);
        hall.receive(2, 5, 50, 2);
        CHECK.same("day 0", hall.countsDue(), 0);
        hall.pass(4);
        CHECK.same("day 4", hall.countsDue(), 0);
        hall.pass(1);
        CHECK.same("day 5", hall.countsDue(), 1);
        hall.pass(15);
        CHECK.same("day 20", hall.countsDue(), 3);
        hall.count(1, 1, 5);
        CHECK.same("one was counted", hall.countsDue(), 2);
        hall.count(2, 0, 0);
        CHECK.same("counted with nothing of a lot", hall.countsDue(), 1);
        hall.count(0, 0, 0);
        CHECK.same("empty", hall.countsDue(), 0);
        hall.pass(30);
        CHECK.same("day 50", hall.countsDue(), 2);
    }
}
