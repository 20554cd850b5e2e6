/** Promises 33 to 40, sentence by sentence. */
public final class JournalEdgesTest extends Edges {
    private static final String FIRST_LISTED = "If several exceptions apply, the one that is listed first is thrown.";
    private static final String NO_ENTRY = "Throws `IndexOutOfBoundsException` if there is no such entry";
    private static final String BIN_OR_NONE = "Returns the number of the bin, or -1.";

    public static void main(String[] args) {
        sentences().run(CHECK, "JournalEdgesTest");
    }

    static Sentences sentences() {
        Sentences all = new Sentences();
        addEntries(all);
        addDaysAndShare(all);
        return all.at("Terms, Exceptions").say(FIRST_LISTED, JournalEdgesTest::promise39FirstListed);
    }

    private static void addEntries(Sentences all) {
        all.at("Promise 33")
                .say("Returns the number of entries of the journal.", JournalEdgesTest::promise33FromNoneToFull)
                .say("Returns the number of entries.", JournalEdgesTest::promise33FromNoneToFull)
                .at("Promise 34")
                .say("Returns the kind of an entry.", JournalEdgesTest::promise34Kinds)
                .say("Returns the kind.", JournalEdgesTest::promise34Kinds)
                .say(NO_ENTRY, JournalEdgesTest::promise34NoSuchEntry)
                .at("Promise 35")
                .say("Returns the lot of an entry.", JournalEdgesTest::promise35Lots)
                .say("Returns the number of the lot.", JournalEdgesTest::promise35Lots)
                .say(NO_ENTRY, JournalEdgesTest::promise35NoSuchEntry)
                .at("Promise 36")
                .say("Returns the bin from which units came.", JournalEdgesTest::promise36BinOrNone)
                .say(BIN_OR_NONE, JournalEdgesTest::promise36BinOrNone)
                .say(NO_ENTRY, JournalEdgesTest::promise36NoSuchEntry)
                .at("Promise 37")
                .say("Returns the bin into which units went.", JournalEdgesTest::promise37BinOrNone)
                .say(BIN_OR_NONE, JournalEdgesTest::promise37BinOrNone)
                .say(NO_ENTRY, JournalEdgesTest::promise37NoSuchEntry)
                .at("Promise 38")
                .say("Returns the quantity of an entry.", JournalEdgesTest::promise38Quantities)
                .say("Returns the number of units.", JournalEdgesTest::promise38Quantities)
                .say(NO_ENTRY, JournalEdgesTest::promise38NoSuchEntry);
    }

    private static void addDaysAndShare(Sentences all) {
        String endOfDay = "Returns the number of units in all lots of an item, expired or not, at the end of a day, "
                + "found from the journal; at the end of the present day nothing more is taken to happen.";
        String none = "Throws `NoSuchElementException` if all promises are open or there are none";
        all.at("Promise 39")
                .say(endOfDay, JournalEdgesTest::promise39EndOfDay)
                .say(endOfDay, JournalEdgesTest::promise39ExpiredOrNot)
                .say(endOfDay, JournalEdgesTest::promise39PresentDay)
                .say("Returns the number of units.", JournalEdgesTest::promise39EndOfDay)
                .say("Throws `IndexOutOfBoundsException` if there is no such item",
                        JournalEdgesTest::promise39NoSuchItem)
                .say("Throws `IllegalArgumentException` if the day is not between 0 and the present day",
                        JournalEdgesTest::promise39Day)
                .at("Promise 40")
                .say("Returns the share of the promises that were picked, among those that are not open.",
                        JournalEdgesTest::promise40Share)
                .say("Returns the number of these promises divided by that of all that are not open, "
                        + "both converted to float.", JournalEdgesTest::promise40Float)
                .say(none, JournalEdgesTest::promise40AllOpen)
                .say(none, JournalEdgesTest::promise40None);
    }

    interface EntryCall {
        Object on(Hall hall, int entry);
    }

    /** Eight entries, of each kind at least one, with the first and the last bin, and from 1 to 30 units. */
    private static Hall eightEntries() {
        Hall hall = Check.hallWith("A");
        hall.receive(0, 30, 8, 39);
        hall.receive(0, 8, 7, 0);
        hall.move(1, 0, 39 - 18, 2);
        hall.promise(0, 7, 6, false);
        hall.pick(0);
        hall.count(39, 0, 1);
        hall.count(0, 0, 29);
        hall.pass(8);
        hall.dispose(1);
        same("entries before", hall.entries(), 8);
        return hall;
    }

    private static void eightAnswers(EntryCall call, Object... due) {
        for (int e = 0; e < 8; e++) {
            int entry = e;
            accepts(JournalEdgesTest::eightEntries, due[entry], "entry " + entry, hall -> call.on(hall, entry));
        }
    }

    private static void noSuchEntry(EntryCall call) {
        refuses(JournalEdgesTest::eightEntries, INDEX, "entry -1", hall -> call.on(hall, -1));
        refuses(JournalEdgesTest::eightEntries, INDEX, "entry 8 of 8", hall -> call.on(hall, 8));
        refuses(JournalEdgesTest::eightEntries, INDEX, "entry 149 of 8", hall -> call.on(hall, 149));
        refuses(Hall::new, INDEX, "entry 0 of none", hall -> call.on(hall, 0));
        refuses(Edges::allFull, INDEX, "entry 150 of 150", hall -> call.on(hall, 150));
        same("entry 149 of 150", thrownBy(allFull(), hall -> call.on(hall, 149)).startsWith("answer "), true);
        same("entry 0 of 150", thrownBy(allFull(), hall -> call.on(hall, 0)).startsWith("answer "), true);
    }

    private static void promise33FromNoneToFull() {
        accepts(Hall::new, 0, "a new object", Hall::entries);
        accepts(Edges::allFull, 150, "a full journal", Hall::entries);
        Hall hall = allFull();
        same("a move with a full journal", Check.outcome(() -> hall.move(0, 0, 24, 1)), "IllegalStateException");
        same("entries after it", hall.entries(), 150);
        Hall other = eightEntries();
        other.addItem('A');
        other.addSubstitute(0, 1, 1);
        other.promise(0, 1, 8, false);
        other.cancel(1);
        other.pass(1);
        other.count(7, 0, 0);
        same("what makes no entry", other.entries(), 8);
    }

    private static void promise34Kinds() {
        eightAnswers(Hall::entryKind, 'r', 'r', 'm', 'p', 'p', 'c', 'c', 'd');
    }

    private static void promise34NoSuchEntry() {
        noSuchEntry(Hall::entryKind);
    }

    private static void promise35Lots() {
        eightAnswers(Hall::entryLot, 0, 1, 1, 1, 1, 0, 0, 1);
        Hall hall = Check.hallWith("A");
        for (int lot = 0; lot < 24; lot++) {
            hall.receive(0, 1, 9, 0);
            same("the lot of the entry " + lot, hall.entryLot(lot), lot);
        }
    }

    private static void promise35NoSuchEntry() {
        noSuchEntry(Hall::entryLot);
    }

    private static void promise36BinOrNone() {
        eightAnswers(Hall::entryFrom, -1, -1, 0, 0, 21, 39, -1, 21);
    }

    private static void promise36NoSuchEntry() {
        noSuchEntry(Hall::entryFrom);
    }

    private static void promise37BinOrNone() {
        eightAnswers(Hall::entryTo, 39, 0, 21, -1, -1, -1, 0, -1);
    }

    private static void promise37NoSuchEntry() {
        noSuchEntry(Hall::entryTo);
    }

    private static void promise38Quantities() {
        eightAnswers(Hall::entryQuantity, 30, 8, 2, 6, 1, 29, 29, 1);
        Hall hall = Check.hallWith("A");
        hall.receive(0, 1, 9, 0);
        hall.count(0, 0, 30);
        hall.count(1, 0, 30);
        hall.count(1, 0, 0);
        same("the least quantity", hall.entryQuantity(0), 1);
        same("29 more", hall.entryQuantity(1), 29);
        same("30 more", hall.entryQuantity(2), 30);
        same("30 less", hall.entryQuantity(3), 30);
    }

    private static void promise38NoSuchEntry() {
        noSuchEntry(Hall::entryQuantity);
    }

    /** Something happens on each of the days from 0 to 4. */
    private static Hall fiveDays() {
        Hall hall = Check.hallWith("AB");
        hall.receive(0, 9, 3, 39);
        hall.receive(1, 5, 99, 39);
        hall.pass(1);
        hall.receive(0, 8, 9, 0);
        hall.move(0, 39, 1, 3);
        hall.pass(1);
        hall.promise(0, 4, 2, false);
        hall.pick(0);
        hall.pass(1);
        hall.count(0, 2, 10);
        hall.count(1, 0, 0);
        hall.pass(1);
        hall.dispose(0);
        return hall;
    }

    private static void promise39EndOfDay() {
        int[] due = {9, 17, 13, 15, 10};
        for (int d = 0; d < due.length; d++) {
            int day = d;
            accepts(JournalEdgesTest::fiveDays, due[day], "on the day " + day, hall -> hall.onHandOn(0, day));
            accepts(JournalEdgesTest::fiveDays, 5, "another item, day " + day, hall -> hall.onHandOn(1, day));
        }
        Hall hall = fiveDays();
        hall.pass(30);
        hall.receive(0, 1, 99, 20);
        same("on the day 0, as before", hall.onHandOn(0, 0), 9);
        accepts(Edges::allFull, 120, "24 lots and a full journal", h -> h.onHandOn(5, 0));
        accepts(Edges::allFull, 120, "24 lots and a full journal, moved ones", h -> h.onHandOn(0, 0));
        same("on the day 33, before the last lot came", hall.onHandOn(0, 33), 10);
        same("on the day 34, after it", hall.onHandOn(0, 34), 11);
    }

    private static void promise39ExpiredOrNot() {
        Hall hall = Check.hallWith("A");
        hall.receive(0, 9, 0, 5);
        hall.pass(1);
        same("on its last day", hall.onHandOn(0, 0), 9);
        same("expired", hall.onHandOn(0, 1), 9);
        hall.pass(1);
        hall.dispose(0);
        same("expired on the day before", hall.onHandOn(0, 1), 9);
        same("disposed of", hall.onHandOn(0, 2), 0);
    }

    private static void promise39PresentDay() {
        Hall hall = Check.hallWith("A");
        same("nothing has happened", hall.onHandOn(0, 0), 0);
        hall.receive(0, 9, 0, 5);
        same("after receiving", hall.onHandOn(0, 0), 9);
        hall.count(5, 0, 7);
        same("after a count", hall.onHandOn(0, 0), 7);
        hall.promise(0, 2, 0, false);
        same("after a promise", hall.onHandOn(0, 0), 7);
        hall.pick(0);
        same("after picking", hall.onHandOn(0, 0), 5);
        hall.pass(3);
        same("three days later", hall.onHandOn(0, 3), 5);
    }

    private static void promise39NoSuchItem() {
        refuses(JournalEdgesTest::fiveDays, INDEX, "item -1", hall -> hall.onHandOn(-1, 0));
        accepts(JournalEdgesTest::fiveDays, 5, "item 1 of 2", hall -> hall.onHandOn(1, 0));
        refuses(JournalEdgesTest::fiveDays, INDEX, "item 2 of 2", hall -> hall.onHandOn(2, 0));
        refuses(Hall::new, INDEX, "item 0 of none", hall -> hall.onHandOn(0, 0));
        accepts(() -> Check.hallWith("ABCABC"), 0, "item 5 of 6", hall -> hall.onHandOn(5, 0));
        refuses(() -> Check.hallWith("ABCABC"), INDEX, "item 6 of 6", hall -> hall.onHandOn(6, 0));
    }

    private static void promise39Day() {
        refuses(JournalEdgesTest::fiveDays, ARGUMENT, "day -1", hall -> hall.onHandOn(0, -1));
        accepts(JournalEdgesTest::fiveDays, 9, "day 0", hall -> hall.onHandOn(0, 0));
        accepts(JournalEdgesTest::fiveDays, 10, "day 4 on day 4", hall -> hall.onHandOn(0, 4));
        refuses(JournalEdgesTest::fiveDays, ARGUMENT, "day 5 on day 4", hall -> hall.onHandOn(0, 5));
        refuses(() -> Check.hallWith("A"), ARGUMENT, "day 1 on day 0", hall -> hall.onHandOn(0, 1));
        accepts(() -> Check.hallWith("A"), 0, "day 0 on day 0", hall -> hall.onHandOn(0, 0));
    }

    private static void promise39FirstListed() {
        refuses(JournalEdgesTest::fiveDays, INDEX, "no item, day -1", hall -> hall.onHandOn(2, -1));
        refuses(JournalEdgesTest::fiveDays, INDEX, "no item, day 5", hall -> hall.onHandOn(-1, 5));
    }

    private static Hall promises(int number) {
        Hall hall = Check.hallWith("A");
        hall.receive(0, 30, 60, 0);
        for (int promise = 0; promise < number; promise++) {
            hall.promise(0, 1, 20, false);
        }
        return hall;
    }

    private static void promise40Share() {
        accepts(Edges::allStatuses, 0.25f, "one picked of four that ended", Hall::served);
        accepts(() -> promises(2), 0.0f, "one cancelled, one open", hall -> {
            hall.cancel(1);
            return hall.served();
        });
        accepts(() -> promises(2), 1.0f, "one picked, one open", hall -> {
            hall.pick(1);
            return hall.served();
        });
        accepts(() -> promises(20), 0.0f, "twenty lapsed", hall -> {
            hall.pass(21);
            return hall.served();
        });
        accepts(() -> promises(20), 0.0f, "twenty broken", hall -> {
            hall.count(0, 0, 0);
            return hall.served();
        });
    }

    private static void promise40Float() {
        for (int ended = 1; ended <= 20; ended++) {
            Hall hall = promises(20);
            for (int promise = 0; promise < ended; promise++) {
                hall.cancel(promise);
            }
            same("none of " + ended, hall.served(), 0.0f);
            for (int promise = ended; promise < 20; promise++) {
                hall.pick(promise);
                int picked = promise - ended + 1;
                same(picked + " of " + (promise + 1), hall.served(), (float) picked / (float) (promise + 1));
            }
        }
        Hall third = promises(3);
        third.cancel(0);
        third.cancel(1);
        third.pick(2);
        same("a third", Float.floatToIntBits(third.served()), 0x3eaaaaab);
    }

    private static void promise40AllOpen() {
        refuses(() -> promises(1), NO_ELEMENT, "one open", Hall::served);
        refuses(() -> promises(20), NO_ELEMENT, "twenty open", Hall::served);
        accepts(() -> promises(20), 1.0f, "one of twenty picked", hall -> {
            hall.pick(7);
            return hall.served();
        });
    }

    private static void promise40None() {
        refuses(Hall::new, NO_ELEMENT, "a new object", Hall::served);
        refuses(() -> promises(0), NO_ELEMENT, "no promises", Hall::served);
    }
}
