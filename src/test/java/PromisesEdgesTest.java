/** Promises 8 to 14, sentence by sentence. */
public final class PromisesEdgesTest extends Edges {
    private static final String FIRST_LISTED = "If several exceptions apply, the one that is listed first is thrown.";
    private static final String NO_ITEM = "Throws `IndexOutOfBoundsException` if there is no such item";
    private static final String NO_PROMISE = "Throws `IndexOutOfBoundsException` if there is no such promise";
    private static final String DUE = "Throws `IllegalArgumentException` if the due day is not between the present day "
            + "and that day plus 60";

    public static void main(String[] args) {
        sentences().run(CHECK, "PromisesEdgesTest");
    }

    static Sentences sentences() {
        Sentences all = new Sentences();
        addPromise(all);
        addCancelAndPick(all);
        addQuestions(all);
        return all.at("Terms, Exceptions")
                .say(FIRST_LISTED, PromisesEdgesTest::promise8FirstListed)
                .say(FIRST_LISTED, PromisesEdgesTest::promise9FirstListed)
                .say(FIRST_LISTED, PromisesEdgesTest::promise10FirstListed)
                .say(FIRST_LISTED, PromisesEdgesTest::promise13FirstListed)
                .say(FIRST_LISTED, PromisesEdgesTest::promise14FirstListed);
    }

    private static void addPromise(Sentences all) {
        String between = "Throws `IllegalArgumentException` if the quantity is not between 1 and 60, "
                + "or the due day is not between the present day and that day plus 60";
        all.at("Promise 8")
                .say("Makes a promise.", PromisesEdgesTest::promise8Makes)
                .say("Returns the number of the promise.", PromisesEdgesTest::promise8Number)
                .say(NO_ITEM, PromisesEdgesTest::promise8NoSuchItem)
                .say(between, PromisesEdgesTest::promise8Quantity)
                .say(between, PromisesEdgesTest::promise8Due)
                .say("Throws `IllegalStateException` if there are 20 promises", PromisesEdgesTest::promise8Twenty)
                .say("Throws `UnsupportedOperationException` if there is a rest", PromisesEdgesTest::promise8Rest);
    }

    private static void addCancelAndPick(Sentences all) {
        String notPicked = "Throws `IllegalStateException` if it is not open, "
                + "or the journal has too little space for the entries";
        all.at("Promise 9")
                .say("Cancels an open promise.", PromisesEdgesTest::promise9Cancels)
                .say("Returns the number of units that were promised.", PromisesEdgesTest::promise9Units)
                .say(NO_PROMISE, PromisesEdgesTest::promise9NoSuchPromise)
                .say("Throws `IllegalStateException` if it is not open", PromisesEdgesTest::promise9NotOpen)
                .at("Promise 10")
                .say("Picks an open promise.", PromisesEdgesTest::promise10Picks)
                .say("Returns the number of its pick lines.", PromisesEdgesTest::promise10Lines)
                .say(NO_PROMISE, PromisesEdgesTest::promise10NoSuchPromise)
                .say(notPicked, PromisesEdgesTest::promise10NotOpen)
                .say(notPicked, PromisesEdgesTest::promise10Journal);
    }

    private static void addQuestions(Sentences all) {
        all.at("Promise 11")
                .say("Returns the status of a promise.", PromisesEdgesTest::promise11Statuses)
                .say("Returns 'o' if it is open, 'p' if it was picked, 'c' if it was cancelled, 'l' if it lapsed, "
                        + "'b' if it was broken.", PromisesEdgesTest::promise11Statuses)
                .say(NO_PROMISE, PromisesEdgesTest::promise11NoSuchPromise)
                .at("Promise 12")
                .say("Returns the quantity of a promise for an item, whatever its status.",
                        PromisesEdgesTest::promise12WhateverItsStatus)
                .say("Returns the number of units, 0 if there is none.", PromisesEdgesTest::promise12None)
                .say("Throws `IndexOutOfBoundsException` if there is no such promise or item",
                        PromisesEdgesTest::promise12NoSuchPromise)
                .say("Throws `IndexOutOfBoundsException` if there is no such promise or item",
                        PromisesEdgesTest::promise12NoSuchItem)
                .at("Promise 13")
                .say("Returns how much of an item is available for a due day, by the differences of all days.",
                        PromisesEdgesTest::promise13Differences)
                .say("Returns the number of units.", PromisesEdgesTest::promise13Differences)
                .say(NO_ITEM, PromisesEdgesTest::promise13NoSuchItem)
                .say(DUE, PromisesEdgesTest::promise13Due)
                .at("Promise 14")
                .say("Returns the same number, found by trying: the greatest quantity that can be given units of lots "
                        + "together with all open promises, each of them units that expire on its due day or later.",
                        PromisesEdgesTest::promise14SameNumber)
                .say("Returns the number of units.", PromisesEdgesTest::promise14SameNumber)
                .say(NO_ITEM, PromisesEdgesTest::promise14NoSuchItem)
                .say(DUE, PromisesEdgesTest::promise14Due);
    }

    // Making promises

    /** Two items, on the day 5: 90 units of the item 0, none of the item 1, nothing promised. */
    private static Hall ninety() {
        Hall hall = Check.hallWith("AB");
        hall.receive(0, 30, 90, 0);
        hall.receive(0, 30, 90, 11);
        hall.receive(0, 30, 90, 22);
        hall.pass(5);
        return hall;
    }

    /** So many promises of one unit of the item 0, due on the day 10. */
    private static Hall promises(int number) {
        Hall hall = ninety();
        for (int promise = 0; promise < number; promise++) {
            hall.promise(0, 1, 10, false);
        }
        return hall;
    }

    private static void promise8Makes() {
        Hall hall = ninety();
        hall.promise(0, 60, 10, false);
        same("status", hall.status(0), 'o');
        same("quantity", hall.quantity(0, 0), 60);
        same("available", hall.available(0, 5), 30);
        same("on hand", hall.onHand(0), 90);
        same("entries", hall.entries(), 3);
    }

    private static void promise8Number() {
        Hall hall = ninety();
        for (int promise = 0; promise < 20; promise++) {
            same("promise", hall.promise(0, 2, 60 - promise, promise % 2 == 0), promise);
        }
    }

    private static void promise8NoSuchItem() {
        for (boolean substitutes : new boolean[] {true, false}) {
            refuses(PromisesEdgesTest::ninety, INDEX, "item -1", hall -> hall.promise(-1, 1, 10, substitutes));
            accepts(PromisesEdgesTest::ninety, 0, "item 0", hall -> hall.promise(0, 1, 10, substitutes));
            refuses(PromisesEdgesTest::ninety, UNSUPPORTED, "item 1", hall -> hall.promise(1, 1, 10, substitutes));
            refuses(PromisesEdgesTest::ninety, INDEX, "item 2", hall -> hall.promise(2, 1, 10, substitutes));
            refuses(Hall::new, INDEX, "item 0 of none", hall -> hall.promise(0, 1, 10, substitutes));
        }
        Scene six = () -> {
            Hall hall = Check.hallWith("ABCABC");
            hall.receive(5, 1, 10, 0);
            return hall;
        };
        accepts(six, 0, "item 5 of 6", hall -> hall.promise(5, 1, 10, false));
        refuses(six, INDEX, "item 6 of 6", hall -> hall.promise(6, 1, 10, false));
    }

    private static void promise8Quantity() {
        refuses(PromisesEdgesTest::ninety, ARGUMENT, "quantity -1", hall -> hall.promise(0, -1, 10, false));
        refuses(PromisesEdgesTest::ninety, ARGUMENT, "quantity 0", hall -> hall.promise(0, 0, 10, false));
        accepts(PromisesEdgesTest::ninety, 0, "quantity 1", hall -> hall.promise(0, 1, 10, false));
        accepts(PromisesEdgesTest::ninety, 0, "quantity 60", hall -> hall.promise(0, 60, 10, false));
        refuses(PromisesEdgesTest::ninety, ARGUMENT, "quantity 61", hall -> hall.promise(0, 61, 10, false));
    }

    private static void promise8Due() {
        refuses(PromisesEdgesTest::ninety, ARGUMENT, "due 4 on day 5", hall -> hall.promise(0, 1, 4, false));
        accepts(PromisesEdgesTest::ninety, 0, "due 5 on day 5", hall -> hall.promise(0, 1, 5, false));
        accepts(PromisesEdgesTest::ninety, 0, "due 65 on day 5", hall -> hall.promise(0, 1, 65, false));
        refuses(PromisesEdgesTest::ninety, ARGUMENT, "due 66 on day 5", hall -> hall.promise(0, 1, 66, false));
        Scene dayZero = () -> {
            Hall hall = Check.hallWith("A");
            hall.receive(0, 9, 99, 0);
            return hall;
        };
        refuses(dayZero, ARGUMENT, "due -1 on day 0", hall -> hall.promise(0, 1, -1, false));
        accepts(dayZero, 0, "due 0 on day 0", hall -> hall.promise(0, 1, 0, false));
        accepts(dayZero, 0, "due 60 on day 0", hall -> hall.promise(0, 1, 60, false));
        refuses(dayZero, ARGUMENT, "due 61 on day 0", hall -> hall.promise(0, 1, 61, false));
    }

    private static void promise8Twenty() {
        accepts(() -> promises(19), 19, "the 20th", hall -> hall.promise(0, 1, 10, false));
        refuses(() -> promises(20), STATE, "a 21st", hall -> hall.promise(0, 1, 10, false));
        refuses(PromisesEdgesTest::twentyEnded, STATE, "a 21st, although none is open",
                hall -> hall.promise(0, 1, hall.day(), false));
    }

    /** Of 20 promises some were picked, some cancelled, some broken, and the others have lapsed. */
    private static Hall twentyEnded() {
        Hall hall = promises(20);
        for (int promise = 0; promise < 5; promise++) {
            hall.pick(promise);
            hall.cancel(promise + 5);
        }
        hall.count(0, 0, 0);
        hall.count(11, 1, 0);
        hall.count(22, 2, 7);
        hall.pass(10);
        same("statuses before", statuses(hall, 20), "pppppccccclllllllbbb");
        return hall;
    }

    /** 1 and 2 substitute 0, and 3 substitutes 1; 4, 3, 2 and 9 units that last to the day 10. */
    private static Hall fourItems() {
        Hall hall = Check.hallWith("ABCA");
        hall.addSubstitute(0, 2, 7);
        hall.addSubstitute(0, 1, 7);
        hall.addSubstitute(1, 3, 1);
        hall.receive(0, 4, 10, 0);
        hall.receive(1, 3, 10, 1);
        hall.receive(2, 2, 10, 2);
        hall.receive(3, 9, 10, 3);
        return hall;
    }

    private static void promise8Rest() {
        Scene scene = PromisesEdgesTest::fourItems;
        accepts(scene, 0, "all of the item", hall -> hall.promise(0, 4, 10, false));
        refuses(scene, UNSUPPORTED, "one more than all of the item", hall -> hall.promise(0, 5, 10, false));
        accepts(scene, 0, "one more, with substitutes", hall -> hall.promise(0, 5, 10, true));
        accepts(scene, 0, "all, with substitutes", hall -> hall.promise(0, 9, 10, true));
        refuses(scene, UNSUPPORTED, "one more than all, with substitutes", hall -> hall.promise(0, 10, 10, true));
        refuses(scene, UNSUPPORTED, "a day too late for all", hall -> hall.promise(0, 1, 11, true));
        accepts(scene, 0, "the last item", hall -> hall.promise(3, 9, 10, true));
        refuses(scene, UNSUPPORTED, "one more, no substitutes there", hall -> hall.promise(3, 10, 10, true));
        Scene promised = () -> {
            Hall hall = fourItems();
            hall.promise(0, 9, 10, true);
            return hall;
        };
        refuses(promised, UNSUPPORTED, "one when all are promised", hall -> hall.promise(0, 1, 0, true));
        accepts(promised, 1, "from a substitute that is not promised", hall -> hall.promise(1, 9, 10, true));
    }

    private static void promise8FirstListed() {
        Scene ninety = PromisesEdgesTest::ninety;
        Scene twenty = () -> promises(20);
        refuses(ninety, INDEX, "no item, quantity", hall -> hall.promise(2, 0, 10, false));
        refuses(ninety, INDEX, "no item, due", hall -> hall.promise(-1, 1, 66, false));
        refuses(ninety, INDEX, "no item, a rest", hall -> hall.promise(2, 60, 10, false));
        refuses(twenty, INDEX, "no item, 20 promises", hall -> hall.promise(2, 1, 10, false));
        refuses(twenty, ARGUMENT, "quantity, 20 promises", hall -> hall.promise(0, 61, 10, false));
        refuses(twenty, ARGUMENT, "due, 20 promises", hall -> hall.promise(0, 1, 4, false));
        refuses(ninety, ARGUMENT, "quantity, a rest", hall -> hall.promise(1, 61, 10, false));
        refuses(ninety, ARGUMENT, "due, a rest", hall -> hall.promise(1, 1, 66, false));
        refuses(twenty, STATE, "20 promises, a rest", hall -> hall.promise(1, 1, 10, true));
    }

    // Cancelling

    private static void promise9Cancels() {
        Hall hall = fourItems();
        hall.promise(0, 9, 10, true);
        hall.cancel(0);
        same("status", hall.status(0), 'c');
        same("available 0", hall.available(0, 10), 4);
        same("available 1", hall.available(1, 10), 3);
        same("available 2", hall.available(2, 10), 2);
        same("entries", hall.entries(), 4);
    }

    private static void promise9Units() {
        Scene promised = () -> {
            Hall hall = fourItems();
            hall.promise(0, 9, 10, true);
            hall.promise(3, 1, 10, true);
            return hall;
        };
        accepts(promised, 9, "of three items", hall -> hall.cancel(0));
        accepts(promised, 1, "one unit", hall -> hall.cancel(1));
        Scene sixty = () -> {
            Hall hall = ninety();
            hall.promise(0, 60, 10, false);
            return hall;
        };
        accepts(sixty, 60, "sixty units", hall -> hall.cancel(0));
    }

    private static void promise9NoSuchPromise() {
        refuses(() -> promises(2), INDEX, "promise -1", hall -> hall.cancel(-1));
        accepts(() -> promises(2), 1, "promise 0", hall -> hall.cancel(0));
        accepts(() -> promises(2), 1, "promise 1", hall -> hall.cancel(1));
        refuses(() -> promises(2), INDEX, "promise 2", hall -> hall.cancel(2));
        refuses(() -> promises(0), INDEX, "promise 0 of none", hall -> hall.cancel(0));
        accepts(() -> promises(20), 1, "promise 19 of 20", hall -> hall.cancel(19));
        refuses(() -> promises(20), INDEX, "promise 20 of 20", hall -> hall.cancel(20));
    }

    private static void promise9NotOpen() {
        accepts(Edges::allStatuses, 4, "an open one", hall -> hall.cancel(0));
        refuses(Edges::allStatuses, STATE, "a picked one", hall -> hall.cancel(1));
        refuses(Edges::allStatuses, STATE, "a cancelled one", hall -> hall.cancel(2));
        refuses(Edges::allStatuses, STATE, "a lapsed one", hall -> hall.cancel(3));
        refuses(Edges::allStatuses, STATE, "a broken one", hall -> hall.cancel(4));
    }

    private static void promise9FirstListed() {
        refuses(Edges::allStatuses, INDEX, "no promise", hall -> hall.cancel(5));
        refuses(PromisesEdgesTest::twentyEnded, INDEX, "no promise, none open", hall -> hall.cancel(20));
    }

    // Picking

    /** The promise 0 takes the whole lot 0, which is in three bins; the promise 1 takes 2 of the lot 1 in one. */
    private static Hall threeLines() {
        Hall hall = Check.hallWith("A");
        hall.receive(0, 9, 50, 0);
        hall.receive(0, 9, 50, 30);
        hall.move(0, 0, 1, 3);
        hall.move(0, 0, 2, 3);
        hall.promise(0, 9, 5, false);
        hall.promise(0, 2, 5, false);
        return hall;
    }

    private static Hall threeLinesWith(int left) {
        return leaveEntries(threeLines(), left, 1, 30, 31);
    }

    private static void promise10Picks() {
        Hall hall = threeLines();
        hall.pick(0);
        same("status", hall.status(0), 'p');
        same("the other status", hall.status(1), 'o');
        same("load 0", hall.load(0), 0);
        same("load 1", hall.load(1), 0);
        same("load 2", hall.load(2), 0);
        same("load 30", hall.load(30), 9);
        same("available", hall.available(0, 5), 7);
        same("entry 4", entry(hall, 4), "p lot 0 from 0 to -1 of 3");
        same("entry 6", entry(hall, 6), "p lot 0 from 2 to -1 of 3");
    }

    private static void promise10Lines() {
        accepts(PromisesEdgesTest::threeLines, 3, "three lines", hall -> hall.pick(0));
        accepts(PromisesEdgesTest::threeLines, 1, "one line", hall -> {
            hall.pick(0);
            return hall.pick(1);
        });
        accepts(PromisesEdgesTest::sixtyLines, 60, "sixty lines", hall -> hall.pick(0));
    }

    /** A promise of 60 units that lie one by one. */
    private static Hall sixtyLines() {
        Hall hall = Check.hallWith("A");
        hall.receive(0, 30, 20, 0);
        hall.receive(0, 30, 20, 39);
        for (int step = 1; step < 30; step++) {
            hall.move(0, 0, step, 1);
            hall.move(1, 39, 39 - step, 1);
        }
        hall.promise(0, 60, 20, false);
        return hall;
    }

    private static void promise10NoSuchPromise() {
        refuses(() -> promises(2), INDEX, "promise -1", hall -> hall.pick(-1));
        accepts(() -> promises(2), 1, "promise 0", hall -> hall.pick(0));
        accepts(() -> promises(2), 1, "promise 1", hall -> hall.pick(1));
        refuses(() -> promises(2), INDEX, "promise 2", hall -> hall.pick(2));
        refuses(() -> promises(0), INDEX, "promise 0 of none", hall -> hall.pick(0));
        accepts(() -> promises(20), 1, "promise 19 of 20", hall -> hall.pick(19));
        refuses(() -> promises(20), INDEX, "promise 20 of 20", hall -> hall.pick(20));
    }

    private static void promise10NotOpen() {
        accepts(Edges::allStatuses, 1, "an open one", hall -> hall.pick(0));
        refuses(Edges::allStatuses, STATE, "a picked one", hall -> hall.pick(1));
        refuses(Edges::allStatuses, STATE, "a cancelled one", hall -> hall.pick(2));
        refuses(Edges::allStatuses, STATE, "a lapsed one", hall -> hall.pick(3));
        refuses(Edges::allStatuses, STATE, "a broken one", hall -> hall.pick(4));
    }

    private static void promise10Journal() {
        accepts(() -> threeLinesWith(3), 3, "three lines, three entries left", hall -> hall.pick(0));
        refuses(() -> threeLinesWith(2), STATE, "three lines, two entries left", hall -> hall.pick(0));
        // An odd number of moves has left one unit of the lot 1 in another bin.
        accepts(() -> threeLinesWith(2), 1, "one line, two entries left", hall -> hall.pick(1));
        refuses(() -> threeLinesWith(0), STATE, "one line, full journal", hall -> hall.pick(1));
        Scene oneLeft = () -> leaveEntries(promises(1), 1, 2, 22, 33);
        accepts(oneLeft, 1, "one line, one entry left", hall -> hall.pick(0));
    }

    private static void promise10FirstListed() {
        refuses(() -> threeLinesWith(0), INDEX, "no promise, full journal", hall -> hall.pick(2));
        refuses(() -> threeLinesWith(0), INDEX, "no promise, full journal", hall -> hall.pick(-1));
    }

    // Questions

    private static void promise11Statuses() {
        Hall hall = allStatuses();
        same("open", hall.status(0), 'o');
        same("picked", hall.status(1), 'p');
        same("cancelled", hall.status(2), 'c');
        same("lapsed", hall.status(3), 'l');
        same("broken", hall.status(4), 'b');
        hall.pass(30);
        same("statuses thirty days later", statuses(hall, 5), "lpclb");
        hall.count(3, 0, 0);
        hall.count(14, 1, 0);
        same("statuses without goods", statuses(hall, 5), "lpclb");
    }

    private static void promise11NoSuchPromise() {
        refuses(() -> promises(2), INDEX, "promise -1", hall -> hall.status(-1));
        accepts(() -> promises(2), 'o', "promise 0", hall -> hall.status(0));
        accepts(() -> promises(2), 'o', "promise 1", hall -> hall.status(1));
        refuses(() -> promises(2), INDEX, "promise 2", hall -> hall.status(2));
        refuses(() -> promises(0), INDEX, "promise 0 of none", hall -> hall.status(0));
        accepts(() -> promises(20), 'o', "promise 19 of 20", hall -> hall.status(19));
        refuses(() -> promises(20), INDEX, "promise 20 of 20", hall -> hall.status(20));
    }

    private static void promise12WhateverItsStatus() {
        int[] due = {4, 3, 2, 2, 19};
        for (int promise = 0; promise < due.length; promise++) {
            same("quantity of " + promise, allStatuses().quantity(promise, 0), due[promise]);
        }
    }

    private static void promise12None() {
        Hall hall = fourItems();
        hall.promise(0, 5, 10, true);
        same("one unit of the first substitute", quantities(hall, 0, 4), "4 1 0 0");
        hall.promise(2, 2, 10, false);
        same("of another item alone", quantities(hall, 1, 4), "0 0 2 0");
        hall.addItem('B');
        same("of an item that was added later", hall.quantity(0, 4), 0);
    }

    private static void promise12NoSuchPromise() {
        refuses(() -> promises(2), INDEX, "promise -1", hall -> hall.quantity(-1, 0));
        accepts(() -> promises(2), 1, "promise 0", hall -> hall.quantity(0, 0));
        accepts(() -> promises(2), 1, "promise 1", hall -> hall.quantity(1, 0));
        refuses(() -> promises(2), INDEX, "promise 2", hall -> hall.quantity(2, 0));
        refuses(() -> promises(0), INDEX, "promise 0 of none", hall -> hall.quantity(0, 0));
        accepts(() -> promises(20), 1, "promise 19 of 20", hall -> hall.quantity(19, 0));
        refuses(() -> promises(20), INDEX, "promise 20 of 20", hall -> hall.quantity(20, 0));
    }

    private static void promise12NoSuchItem() {
        refuses(() -> promises(2), INDEX, "item -1", hall -> hall.quantity(0, -1));
        accepts(() -> promises(2), 0, "item 1 of 2", hall -> hall.quantity(0, 1));
        refuses(() -> promises(2), INDEX, "item 2 of 2", hall -> hall.quantity(0, 2));
        refuses(() -> promises(2), INDEX, "item 5 of 2", hall -> hall.quantity(0, 5));
        Scene six = () -> {
            Hall hall = Check.hallWith("ABCABC");
            hall.receive(5, 2, 9, 0);
            hall.promise(5, 2, 9, false);
            return hall;
        };
        accepts(six, 2, "item 5 of 6", hall -> hall.quantity(0, 5));
        refuses(six, INDEX, "item 6 of 6", hall -> hall.quantity(0, 6));
    }

    /** What is available for each of the days from 0 to 6, by the one call or the other. */
    private static String availables(Hall hall, boolean byTrying) {
        StringBuilder text = new StringBuilder();
        for (int due = 0; due <= 6; due++) {
            int units = byTrying ? hall.availableByTrying(0, due) : hall.available(0, due);
            text.append(due == 0 ? "" : " ").append(units);
        }
        return text.toString();
    }

    private static void availables(boolean byTrying) {
        Hall hall = Check.hallWith("AB");
        same("without lots", availables(hall, byTrying), "0 0 0 0 0 0 0");
        hall.receive(1, 30, 99, 39);
        same("with lots of another item", availables(hall, byTrying), "0 0 0 0 0 0 0");
        hall.receive(0, 8, 2, 0);
        hall.receive(0, 7, 5, 1);
        same("with two lots", availables(hall, byTrying), "15 15 15 7 7 7 0");
        hall.promise(0, 5, 4, false);
        same("a promise that takes from the later lot", availables(hall, byTrying), "10 10 10 2 2 2 0");
        hall.promise(0, 9, 1, false);
        same("a promise that takes from both", availables(hall, byTrying), "1 1 1 1 1 1 0");
        hall.promise(0, 1, 0, false);
        same("with nothing left today", availables(hall, byTrying), "0 0 0 0 0 0 0");
        hall.cancel(1);
        same("after cancelling", availables(hall, byTrying), "9 9 9 2 2 2 0");
        hall.pick(2);
        same("after picking what was due today", availables(hall, byTrying), "9 9 9 2 2 2 0");
        hall.count(0, 1, 0);
        same("after a count that finds too little for one", availables(hall, byTrying), "2 2 2 2 2 2 0");
        hall.count(1, 2, 4);
        same("after a count that breaks", availables(hall, byTrying), "4 4 4 4 4 4 0");
    }

    private static void promise13Differences() {
        availables(false);
        for (int number = 0; number <= 1200; number++) {
            int units = number;
            accepts(() -> units(units), units, "of so many units", hall -> hall.available(0, 60));
        }
        accepts(Edges::allFull, 116, "a full object, four promised", hall -> hall.available(1, 60));
        accepts(Edges::allFull, 117, "a full object, three promised", hall -> hall.available(5, 60));
    }

    private static void promise14SameNumber() {
        availables(true);
        for (int number = 0; number <= 1200; number++) {
            int units = number;
            accepts(() -> units(units), units, "of so many units", hall -> hall.availableByTrying(0, 60));
        }
        accepts(Edges::allFull, 116, "a full object, four promised", hall -> hall.availableByTrying(1, 60));
        accepts(Edges::allFull, 117, "a full object, three promised", hall -> hall.availableByTrying(5, 60));
    }

    /** So many units of one lot, in as few bins as can be: with 1200 of them all bins are full. */
    private static Hall units(int number) {
        Hall hall = Check.hallWith("A");
        hall.receive(0, 30, 60, 0);
        for (int bin = 0; bin < 40; bin++) {
            hall.count(bin, 0, Math.max(0, Math.min(30, number - 30 * bin)));
        }
        return hall;
    }

    private static void promise13NoSuchItem() {
        refuses(PromisesEdgesTest::ninety, INDEX, "item -1", hall -> hall.available(-1, 10));
        accepts(PromisesEdgesTest::ninety, 90, "item 0", hall -> hall.available(0, 10));
        accepts(PromisesEdgesTest::ninety, 0, "item 1", hall -> hall.available(1, 10));
        refuses(PromisesEdgesTest::ninety, INDEX, "item 2", hall -> hall.available(2, 10));
        refuses(Hall::new, INDEX, "item 0 of none", hall -> hall.available(0, 10));
        accepts(() -> Check.hallWith("ABCABC"), 0, "item 5 of 6", hall -> hall.available(5, 10));
        refuses(() -> Check.hallWith("ABCABC"), INDEX, "item 6 of 6", hall -> hall.available(6, 10));
    }

    private static void promise13Due() {
        refuses(PromisesEdgesTest::ninety, ARGUMENT, "due 4 on day 5", hall -> hall.available(0, 4));
        accepts(PromisesEdgesTest::ninety, 90, "due 5 on day 5", hall -> hall.available(0, 5));
        accepts(PromisesEdgesTest::ninety, 90, "due 65 on day 5", hall -> hall.available(0, 65));
        refuses(PromisesEdgesTest::ninety, ARGUMENT, "due 66 on day 5", hall -> hall.available(0, 66));
        refuses(() -> Check.hallWith("A"), ARGUMENT, "due -1 on day 0", hall -> hall.available(0, -1));
        accepts(() -> Check.hallWith("A"), 0, "due 0 on day 0", hall -> hall.available(0, 0));
        accepts(() -> Check.hallWith("A"), 0, "due 60 on day 0", hall -> hall.available(0, 60));
        refuses(() -> Check.hallWith("A"), ARGUMENT, "due 61 on day 0", hall -> hall.available(0, 61));
    }

    private static void promise13FirstListed() {
        refuses(PromisesEdgesTest::ninety, INDEX, "no item, due 4", hall -> hall.available(-1, 4));
        refuses(PromisesEdgesTest::ninety, INDEX, "no item, due 66", hall -> hall.available(2, 66));
    }

    private static void promise14NoSuchItem() {
        refuses(PromisesEdgesTest::ninety, INDEX, "item -1", hall -> hall.availableByTrying(-1, 10));
        accepts(PromisesEdgesTest::ninety, 90, "item 0", hall -> hall.availableByTrying(0, 10));
        accepts(PromisesEdgesTest::ninety, 0, "item 1", hall -> hall.availableByTrying(1, 10));
        refuses(PromisesEdgesTest::ninety, INDEX, "item 2", hall -> hall.availableByTrying(2, 10));
        refuses(Hall::new, INDEX, "item 0 of none", hall -> hall.availableByTrying(0, 10));
        accepts(() -> Check.hallWith("ABCABC"), 0, "item 5 of 6", hall -> hall.availableByTrying(5, 10));
        refuses(() -> Check.hallWith("ABCABC"), INDEX, "item 6 of 6", hall -> hall.availableByTrying(6, 10));
    }

    private static void promise14Due() {
        refuses(PromisesEdgesTest::ninety, ARGUMENT, "due 4 on day 5", hall -> hall.availableByTrying(0, 4));
        accepts(PromisesEdgesTest::ninety, 90, "due 5 on day 5", hall -> hall.availableByTrying(0, 5));
        accepts(PromisesEdgesTest::ninety, 90, "due 65 on day 5", hall -> hall.availableByTrying(0, 65));
        refuses(PromisesEdgesTest::ninety, ARGUMENT, "due 66 on day 5", hall -> hall.availableByTrying(0, 66));
        refuses(() -> Check.hallWith("A"), ARGUMENT, "due -1 on day 0", hall -> hall.availableByTrying(0, -1));
        accepts(() -> Check.hallWith("A"), 0, "due 0 on day 0", hall -> hall.availableByTrying(0, 0));
        accepts(() -> Check.hallWith("A"), 0, "due 60 on day 0", hall -> hall.availableByTrying(0, 60));
        refuses(() -> Check.hallWith("A"), ARGUMENT, "due 61 on day 0", hall -> hall.availableByTrying(0, 61));
    }

    private static void promise14FirstListed() {
        refuses(PromisesEdgesTest::ninety, INDEX, "no item, due 4", hall -> hall.availableByTrying(-1, 4));
        refuses(PromisesEdgesTest::ninety, INDEX, "no item, due 66", hall -> hall.availableByTrying(2, 66));
    }
}
