/** Promises 8 to 14. */
public final class PromisesTest {
    private static final Check CHECK = new Check();
    private static final Class<IndexOutOfBoundsException> INDEX = IndexOutOfBoundsException.class;
    private static final Class<IllegalArgumentException> ARGUMENT = IllegalArgumentException.class;
    private static final Class<IllegalStateException> STATE = IllegalStateException.class;
    private static final Class<UnsupportedOperationException> UNSUPPORTED = UnsupportedOperationException.class;

    public static void main(String[] args) {
        promise();
        promiseFromSubstitutes();
        substitutesAreNotFollowedFurther();
        wrongPromise();
        twentyPromises();
        cancel();
        pick();
        wrongPick();
        status();
        quantity();
        available();
        availableAfterPicking();
        wrongAvailable();
        CHECK.end("PromisesTest");
    }

    private static void available(Hall hall, int item, int due, int quantity) {
        CHECK.same("available(" + item + ", " + due + ")", hall.available(item, due), quantity);
        CHECK.same("availableByTrying(" + item + ", " + due + ")", hall.availableByTrying(item, due), quantity);
    }

    private static void promise() {
        Hall hall = Check.hallWith("A");
        hall.receive(0, 30, 60, 0);
        hall.receive(0, 30, 60, 1);
        CHECK.same("the first", hall.promise(0, 1, 0, false), 0);
        CHECK.same("the second", hall.promise(0, 58, 60, true), 1);
        CHECK.same("the third", hall.promise(0, 1, 30, false), 2);
        CHECK.same("open", hall.status(1), 'o');
        CHECK.same("quantity", hall.quantity(1, 0), 58);
        available(hall, 0, 0, 0);
        Hall much = Check.hallWith("A");
        much.receive(0, 30, 60, 0);
        much.receive(0, 30, 60, 1);
        much.receive(0, 30, 60, 2);
        CHECK.same("sixty", much.promise(0, 60, 60, false), 0);
        available(much, 0, 60, 30);
    }

    private static void promiseFromSubstitutes() {
        Hall hall = Check.hallWith("ABCABC");
        for (int item = 0; item < 6; item++) {
            hall.receive(item, 4, 20, item);
        }
        hall.addSubstitute(0, 4, 2);
        hall.addSubstitute(0, 3, 9);
        hall.addSubstitute(0, 2, 2);
        hall.addSubstitute(0, 5, 1);
        CHECK.same("from three substitutes", hall.promise(0, 14, 10, true), 0);
        quantities(hall, 0, 4, 0, 4, 0, 2, 4);
        CHECK.same("from the others", hall.promise(0, 6, 10, true), 1);
        quantities(hall, 1, 0, 0, 0, 4, 2, 0);
        CHECK.refuses("nothing is left", hall, UNSUPPORTED, () -> hall.promise(0, 1, 10, true));
        CHECK.same("no substitute is needed", hall.promise(1, 4, 10, true), 2);
        quantities(hall, 2, 0, 4, 0, 0, 0, 0);
        CHECK.same("units", hall.cancel(0), 14);
    }

    private static void quantities(Hall hall, int promise, int... due) {
        for (int item = 0; item < due.length; item++) {
            CHECK.same("quantity(" + promise + ", " + item + ")", hall.quantity(promise, item), due[item]);
        }
    }

    private static void substitutesAreNotFollowedFurther() {
        Hall hall = Check.hallWith("ABC");
        hall.receive(0, 2, 20, 0);
        hall.receive(1, 2, 20, 1);
        hall.receive(2, 2, 20, 2);
        hall.addSubstitute(0, 1, 1);
        hall.addSubstitute(1, 2, 1);
        CHECK.refuses("a substitute's substitute", hall, UNSUPPORTED, () -> hall.promise(0, 5, 10, true));
        CHECK.refuses("no substitutes", hall, UNSUPPORTED, () -> hall.promise(0, 3, 10, false));
        CHECK.same("all of the substitute", hall.promise(0, 4, 10, true), 0);
        CHECK.refuses("the substitute expires before", hall, UNSUPPORTED, () -> hall.promise(1, 1, 21, true));
        CHECK.same("from the substitute alone", hall.promise(1, 1, 20, true), 1);
        quantities(hall, 1, 0, 0, 1);
    }

    private static void wrongPromise() {
        Hall hall = Check.hallWith("A");
        hall.receive(0, 30, 90, 0);
        hall.receive(0, 30, 90, 1);
        hall.receive(0, 30, 90, 2);
        hall.pass(5);
        CHECK.refuses("item -1", hall, INDEX, () -> hall.promise(-1, 0, 10, false));
        CHECK.refuses("item 1", hall, INDEX, () -> hall.promise(1, 1, 66, true));
        CHECK.refuses("quantity 0", hall, ARGUMENT, () -> hall.promise(0, 0, 10, false));
        CHECK.refuses("quantity 61", hall, ARGUMENT, () -> hall.promise(0, 61, 10, false));
        CHECK.refuses("due 4", hall, ARGUMENT, () -> hall.promise(0, 1, 4, false));
        CHECK.refuses("due 66", hall, ARGUMENT, () -> hall.promise(0, 1, 66, false));
        CHECK.refuses("due far off", hall, ARGUMENT, () -> hall.promise(0, 1, Integer.MAX_VALUE, false));
        CHECK.refuses("due long ago", hall, ARGUMENT, () -> hall.promise(0, 1, Integer.MIN_VALUE, false));
        CHECK.same("due 65", hall.promise(0, 60, 65, false), 0);
        CHECK.refuses("too many", hall, UNSUPPORTED, () -> hall.promise(0, 31, 5, false));
        CHECK.same("due 5", hall.promise(0, 30, 5, false), 1);
    }

    private static void twentyPromises() {
        Hall hall = Check.hallWith("A");
        hall.receive(0, 30, 90, 0);
        for (int promise = 0; promise < 20; promise++) {
            CHECK.same("promise", hall.promise(0, 1, 10, false), promise);
        }
        hall.cancel(3);
        CHECK.refuses("one too many", hall, STATE, () -> hall.promise(0, 1, 10, false));
        CHECK.refuses("one too many, too much", hall, STATE, () -> hall.promise(0, 60, 10, false));
        CHECK.refuses("one too many, too late", hall, ARGUMENT, () -> hall.promise(0, 1, 61, false));
        CHECK.refuses("one too many of none", hall, ARGUMENT, () -> hall.promise(0, 0, 10, false));
    }

    private static void cancel() {
        Hall hall = Check.hallWith("AB");
        hall.addSubstitute(0, 1, 1);
        hall.receive(0, 5, 10, 0);
        hall.receive(1, 5, 10, 0);
        hall.promise(0, 8, 5, true);
        available(hall, 0, 5, 0);
        CHECK.refuses("promise -1", hall, INDEX, () -> hall.cancel(-1));
        CHECK.refuses("promise 1", hall, INDEX, () -> hall.cancel(1));
        CHECK.same("units", hall.cancel(0), 8);
        CHECK.same("status", hall.status(0), 'c');
        available(hall, 0, 5, 5);
        available(hall, 1, 5, 5);
        CHECK.refuses("once more", hall, STATE, () -> hall.cancel(0));
        CHECK.same("its quantity stays", hall.quantity(0, 1), 3);
        hall.promise(0, 1, 0, false);
        hall.promise(0, 1, 5, false);
        hall.pick(2);
        hall.pass(1);
        CHECK.refuses("a lapsed one", hall, STATE, () -> hall.cancel(1));
        CHECK.refuses("a picked one", hall, STATE, () -> hall.cancel(2));
    }

    private static void pick() {
        Hall hall = Check.hallWith("AB");
        hall.addSubstitute(0, 1, 1);
        hall.receive(0, 5, 10, 19);
        hall.receive(0, 5, 8, 10);
        hall.receive(1, 5, 10, 19);
        hall.promise(0, 12, 8, true);
        CHECK.same("lines", hall.pick(0), 3);
        CHECK.same("status", hall.status(0), 'p');
        CHECK.same("on hand 0", hall.onHand(0), 0);
        CHECK.same("on hand 1", hall.onHand(1), 3);
        CHECK.same("load", hall.load(19), 3);
        CHECK.same("entries", hall.entries(), 6);
        GoodsTest.entry(hall, 3, "p lot 0 from 19 to -1 of 5");
        GoodsTest.entry(hall, 4, "p lot 2 from 19 to -1 of 2");
        GoodsTest.entry(hall, 5, "p lot 1 from 10 to -1 of 5");
        available(hall, 1, 8, 3);
        CHECK.same("its quantity stays", hall.quantity(0, 0), 10);
    }

    private static void wrongPick() {
        Hall hall = Check.hallWith("A");
        hall.receive(0, 9, 50, 0);
        hall.receive(0, 9, 50, 30);
        hall.move(0, 0, 1, 3);
        hall.move(0, 0, 2, 3);
        hall.promise(0, 9, 5, false);
        hall.promise(0, 2, 5, false);
        hall.promise(0, 1, 5, false);
        hall.cancel(2);
        CHECK.refuses("promise -1", hall, INDEX, () -> hall.pick(-1));
        CHECK.refuses("promise 3", hall, INDEX, () -> hall.pick(3));
        CHECK.refuses("a cancelled one", hall, STATE, () -> hall.pick(2));
        GoodsTest.fillJournal(hall, 1, 30, 31, 2);
        CHECK.refuses("three lines for two entries", hall, STATE, () -> hall.pick(0));
        CHECK.same("one line", hall.pick(1), 1);
        CHECK.refuses("once more", hall, STATE, () -> hall.pick(1));
        CHECK.same("still one entry", hall.entries(), 149);

        Hall just = Check.hallWith("A");
        just.receive(0, 9, 50, 0);
        just.receive(0, 9, 50, 30);
        just.move(0, 0, 1, 3);
        just.move(0, 0, 2, 3);
        just.promise(0, 9, 5, false);
        GoodsTest.fillJournal(just, 1, 30, 31, 3);
        CHECK.same("three lines for three entries", just.pick(0), 3);
        CHECK.same("the journal is full", just.entries(), 150);
    }

    private static void status() {
        Hall hall = Check.hallWith("A");
        hall.receive(0, 9, 50, 0);
        for (int promise = 0; promise < 5; promise++) {
            hall.promise(0, 1, promise == 1 ? 0 : 5, false);
            CHECK.same("open", hall.status(promise), 'o');
        }
        hall.pick(0);
        CHECK.same("one lapses", hall.pass(1), 1);
        hall.cancel(2);
        hall.count(0, 0, 1);
        CHECK.same("picked", hall.status(0), 'p');
        CHECK.same("lapsed", hall.status(1), 'l');
        CHECK.same("cancelled", hall.status(2), 'c');
        CHECK.same("open", hall.status(3), 'o');
        CHECK.same("broken", hall.status(4), 'b');
        CHECK.refuses("status(-1)", hall, INDEX, () -> hall.status(-1));
        CHECK.refuses("status(5)", hall, INDEX, () -> hall.status(5));
        CHECK.refuses("status(20)", hall, INDEX, () -> hall.status(20));
        CHECK.refuses("cancel of a broken one", hall, STATE, () -> hall.cancel(4));
        CHECK.refuses("pick of a broken one", hall, STATE, () -> hall.pick(4));
        CHECK.refuses("pick of a lapsed one", hall, STATE, () -> hall.pick(1));
    }

    private static void quantity() {
        Hall hall = Check.hallWith("AB");
        hall.receive(0, 9, 50, 0);
        hall.promise(0, 7, 5, false);
        quantities(hall, 0, 7, 0);
        CHECK.refuses("promise -1", hall, INDEX, () -> hall.quantity(-1, 0));
        CHECK.refuses("promise 1", hall, INDEX, () -> hall.quantity(1, 0));
        CHECK.refuses("item -1", hall, INDEX, () -> hall.quantity(0, -1));
        CHECK.refuses("item 2", hall, INDEX, () -> hall.quantity(0, 2));
        hall.addItem('C');
        quantities(hall, 0, 7, 0, 0);
        hall.count(0, 0, 0);
        quantities(hall, 0, 7, 0, 0);
    }

    private static void available() {
        Hall hall = Check.hallWith("AB");
        available(hall, 0, 0, 0);
        hall.receive(0, 10, 5, 0);
        hall.receive(0, 8, 2, 1);
        hall.receive(0, 7, 60, 2);
        hall.receive(1, 30, 99, 3);
        available(hall, 0, 0, 25);
        available(hall, 0, 2, 25);
        available(hall, 0, 3, 17);
        available(hall, 0, 5, 17);
        available(hall, 0, 6, 7);
        available(hall, 0, 60, 7);
        hall.promise(0, 5, 6, false);
        available(hall, 0, 6, 2);
        available(hall, 0, 7, 2);
        available(hall, 0, 5, 12);
        available(hall, 0, 0, 20);
        hall.promise(0, 13, 1, false);
        available(hall, 0, 0, 7);
        available(hall, 0, 1, 7);
        available(hall, 0, 5, 7);
        available(hall, 0, 60, 2);
        hall.promise(0, 6, 2, false);
        available(hall, 0, 60, 1);
        hall.pass(3);
        available(hall, 0, 3, 12);
        available(hall, 0, 6, 2);
        available(hall, 0, 63, 0);
        available(hall, 1, 63, 30);
        hall.count(30, 3, 30);
        hall.count(31, 3, 30);
        available(hall, 1, 20, 90);

        Hall tomorrow = Check.hallWith("A");
        tomorrow.receive(0, 4, 0, 0);
        tomorrow.receive(0, 3, 9, 0);
        available(tomorrow, 0, 0, 7);
        available(tomorrow, 0, 1, 3);
    }

    private static void availableAfterPicking() {
        Hall hall = Check.hallWith("A");
        hall.receive(0, 2, 10, 0);
        hall.receive(0, 2, 4, 1);
        hall.promise(0, 2, 3, false);
        available(hall, 0, 10, 2);
        hall.pick(0);
        available(hall, 0, 10, 2);
        available(hall, 0, 3, 2);
        CHECK.same("the earlier lot was taken", hall.stock(1, 1), 0);
    }

    private static void wrongAvailable() {
        Hall hall = Check.hallWith("A");
        hall.receive(0, 2, 99, 0);
        hall.pass(7);
        CHECK.refuses("item -1", hall, INDEX, () -> hall.available(-1, 6));
        CHECK.refuses("item 1", hall, INDEX, () -> hall.available(1, 68));
        CHECK.refuses("due 6", hall, ARGUMENT, () -> hall.available(0, 6));
        CHECK.refuses("due 68", hall, ARGUMENT, () -> hall.available(0, 68));
        CHECK.refuses("item -1 by trying", hall, INDEX, () -> hall.availableByTrying(-1, 6));
        CHECK.refuses("item 1 by trying", hall, INDEX, () -> hall.availableByTrying(1, 68));
        CHECK.refuses("due 6 by trying", hall, ARGUMENT, () -> hall.availableByTrying(0, 6));
        CHECK.refuses("due 68 by trying", hall, ARGUMENT, () -> hall.availableByTrying(0, 68));
        available(hall, 0, 7, 2);
        available(hall, 0, 67, 2);
    }
}
