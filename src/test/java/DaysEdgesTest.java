/** Promises 21 to 25, sentence by sentence. */
public final class DaysEdgesTest extends Edges {
    private static final String FIRST_LISTED = "If several exceptions apply, the one that is listed first is thrown.";
    private static final int[] ROUTE = {0, 1, 2, 3, 4, 5, 6, 7, 8, 9, 19, 18, 17, 16, 15, 14, 13, 12, 11, 10,
            20, 21, 22, 23, 24, 25, 26, 27, 28, 29, 39, 38, 37, 36, 35, 34, 33, 32, 31, 30};

    public static void main(String[] args) {
        sentences().run(CHECK, "DaysEdgesTest");
    }

    static Sentences sentences() {
        Sentences all = new Sentences();
        addPassAndDay(all);
        addCounts(all);
        return all;
    }

    private static void addPassAndDay(Sentences all) {
        all.at("Promise 21")
                .say("Lets days begin, one after the other.", DaysEdgesTest::promise21OneAfterTheOther)
                .say("Returns the number of promises that lapsed.", DaysEdgesTest::promise21Number)
                .say("Throws `IllegalArgumentException` if the number is not between 1 and 30",
                        DaysEdgesTest::promise21Days)
                .at("Promise 22")
                .say("Returns the present day.", DaysEdgesTest::promise22PresentDay);
    }

    private static void addCounts(Sentences all) {
        all.at("Promise 23")
                .say("Returns the number of bins whose count is due on the present day or was due earlier.",
                        DaysEdgesTest::promise23DueOrEarlier)
                .say("Returns the number of bins.", DaysEdgesTest::promise23Number)
                .at("Promise 24")
                .say("Returns the bin whose count is due first; of several, the first one on the route.",
                        DaysEdgesTest::promise24DueFirst)
                .say("Returns the bin whose count is due first; of several, the first one on the route.",
                        DaysEdgesTest::promise24FirstOnTheRoute)
                .say("Returns the number of the bin.", DaysEdgesTest::promise24Number)
                .say("Throws `NoSuchElementException` if all bins are empty", DaysEdgesTest::promise24AllEmpty)
                .at("Promise 25")
                .say("Returns the day on which the count of a bin is due.", DaysEdgesTest::promise25Day)
                .say("Returns the day.", DaysEdgesTest::promise25Day)
                .say("Throws `IndexOutOfBoundsException` if there is no such bin", DaysEdgesTest::promise25NoSuchBin)
                .say("Throws `NoSuchElementException` if it is empty", DaysEdgesTest::promise25Empty)
                .at("Terms, Exceptions")
                .say(FIRST_LISTED, DaysEdgesTest::promise25FirstListed);
    }

    /** On the day 0, five promises of a unit, due on the days 0, 1, 2, 3 and 30. */
    private static Hall fiveDues() {
        Hall hall = Check.hallWith("A");
        hall.receive(0, 20, 99, 0);
        for (int due : new int[] {0, 1, 2, 3, 30}) {
            hall.promise(0, 1, due, false);
        }
        return hall;
    }

    private static void promise21OneAfterTheOther() {
        Hall atOnce = fiveDues();
        Hall oneByOne = fiveDues();
        same("three days at once", atOnce.pass(3), 3);
        int lapsed = 0;
        for (int day = 1; day <= 3; day++) {
            lapsed += oneByOne.pass(1);
            same("the day", oneByOne.day(), day);
        }
        same("three days one by one", lapsed, 3);
        same("what stands after both", Snapshot.of(atOnce), Snapshot.of(oneByOne));
    }

    private static void promise21Number() {
        accepts(DaysEdgesTest::fiveDues, 1, "a day", hall -> hall.pass(1));
        accepts(DaysEdgesTest::fiveDues, 2, "two days", hall -> hall.pass(2));
        accepts(DaysEdgesTest::fiveDues, 4, "29 days", hall -> hall.pass(29));
        accepts(DaysEdgesTest::fiveDues, 4, "30 days", hall -> hall.pass(30));
        accepts(Hall::new, 0, "without promises", hall -> hall.pass(30));
        Scene allLapsed = () -> {
            Hall hall = fiveDues();
            hall.pass(30);
            hall.pass(1);
            return hall;
        };
        accepts(allLapsed, 0, "those that have lapsed do not lapse again", hall -> hall.pass(1));
        Scene ended = () -> {
            Hall hall = fiveDues();
            hall.cancel(0);
            hall.pick(1);
            hall.count(0, 0, 1);
            same("statuses before", statuses(hall, 5), "cpobb");
            return hall;
        };
        accepts(ended, 1, "the open one only", hall -> hall.pass(30));
        Scene twenty = () -> {
            Hall hall = Check.hallWith("A");
            hall.receive(0, 20, 99, 0);
            for (int promise = 0; promise < 20; promise++) {
                hall.promise(0, 1, 0, false);
            }
            return hall;
        };
        accepts(twenty, 20, "all of twenty", hall -> hall.pass(1));
    }

    private static void promise21Days() {
        refuses(DaysEdgesTest::fiveDues, ARGUMENT, "pass(-1)", hall -> hall.pass(-1));
        refuses(DaysEdgesTest::fiveDues, ARGUMENT, "pass(0)", hall -> hall.pass(0));
        accepts(DaysEdgesTest::fiveDues, 1, "pass(1)", hall -> hall.pass(1));
        accepts(DaysEdgesTest::fiveDues, 4, "pass(30)", hall -> hall.pass(30));
        refuses(DaysEdgesTest::fiveDues, ARGUMENT, "pass(31)", hall -> hall.pass(31));
    }

    private static void promise22PresentDay() {
        Hall hall = new Hall();
        same("at first", hall.day(), 0);
        hall.pass(1);
        same("a day later", hall.day(), 1);
        hall.pass(30);
        same("thirty days later", hall.day(), 31);
        same("a wrong number of days", Check.outcome(() -> hall.pass(31)), "IllegalArgumentException");
        same("afterwards", hall.day(), 31);
    }

    /** The bins 0, 1 and 2 with a unit of an item of the category A, B and C. */
    private static Hall threeBins() {
        Hall hall = Check.hallWith("ABC");
        for (int item = 0; item < 3; item++) {
            hall.receive(item, 1, 99, item);
        }
        return hall;
    }

    private static void promise23DueOrEarlier() {
        Hall hall = threeBins();
        int[] lastDays = {4, 9, 19};
        for (int due = 0; due < lastDays.length; due++) {
            hall.pass(lastDays[due] - hall.day());
            same("on the day " + hall.day(), hall.countsDue(), due);
            hall.pass(1);
            same("on the day " + hall.day(), hall.countsDue(), due + 1);
        }
        hall.pass(30);
        same("long afterwards", hall.countsDue(), 3);
        hall.count(0, 0, 1);
        same("after one was counted", hall.countsDue(), 2);
        hall.count(1, 1, 0);
        same("after one was found to be empty", hall.countsDue(), 1);
    }

    private static void promise23Number() {
        accepts(Hall::new, 0, "without items", Hall::countsDue);
        Scene empty = () -> {
            Hall hall = Check.hallWith("A");
            hall.pass(30);
            return hall;
        };
        accepts(empty, 0, "empty bins", Hall::countsDue);
        Scene forty = () -> {
            Hall hall = Check.hallWith("C");
            hall.receive(0, 1, 99, 0);
            for (int bin = 1; bin < 40; bin++) {
                hall.count(bin, 0, 1);
            }
            hall.pass(20);
            return hall;
        };
        accepts(forty, 40, "forty bins", Hall::countsDue);
    }

    private static void promise24DueFirst() {
        Hall hall = threeBins();
        same("A is first", hall.nextCount(), 0);
        hall.pass(4);
        hall.count(0, 0, 1);
        same("A on the day 9 is still before B", hall.nextCount(), 0);
        hall.pass(1);
        hall.count(0, 0, 1);
        same("B and A on the day 10", hall.nextCount(), 0);
        hall.pass(1);
        hall.count(0, 0, 1);
        same("B on the day 10, A on the day 11", hall.nextCount(), 1);
        hall.count(1, 1, 1);
        same("A on the day 11, B on the day 16, C on the day 20", hall.nextCount(), 0);
        hall.count(0, 0, 0);
        same("B without A", hall.nextCount(), 1);
        hall.count(1, 1, 0);
        same("C alone", hall.nextCount(), 2);
        hall.pass(30);
        same("what was due earlier counts too", hall.nextCount(), 2);
    }

    /** Of each two bins that lie one behind the other on the route. */
    private static void promise24FirstOnTheRoute() {
        for (int place = 0; place + 1 < ROUTE.length; place++) {
            Hall hall = Check.hallWith("A");
            hall.receive(0, 1, 99, ROUTE[place + 1]);
            same("the only one", hall.nextCount(), ROUTE[place + 1]);
            hall.receive(0, 1, 99, ROUTE[place]);
            same("the one before it", hall.nextCount(), ROUTE[place]);
        }
    }

    private static void promise24Number() {
        for (int bin = 0; bin < 40; bin++) {
            Hall hall = Check.hallWith("C");
            hall.receive(0, 1, 99, bin);
            same("the bin " + bin, hall.nextCount(), bin);
        }
    }

    private static void promise24AllEmpty() {
        refuses(Hall::new, NO_ELEMENT, "a new object", Hall::nextCount);
        accepts(() -> Check.hallWith("A"), 0, "one unit", hall -> {
            hall.receive(0, 1, 0, 0);
            return hall.nextCount();
        });
        Scene emptied = () -> {
            Hall hall = threeBins();
            for (int bin = 0; bin < 3; bin++) {
                hall.count(bin, bin, 0);
            }
            return hall;
        };
        refuses(emptied, NO_ELEMENT, "all were emptied", Hall::nextCount);
        Scene picked = () -> {
            Hall hall = Check.hallWith("A");
            hall.receive(0, 2, 9, 7);
            hall.promise(0, 2, 0, false);
            hall.pick(0);
            return hall;
        };
        refuses(picked, NO_ELEMENT, "all was picked", Hall::nextCount);
        Scene disposed = () -> {
            Hall hall = Check.hallWith("A");
            hall.receive(0, 2, 0, 7);
            hall.pass(1);
            hall.dispose(0);
            return hall;
        };
        refuses(disposed, NO_ELEMENT, "all was disposed of", Hall::nextCount);
    }

    private static void promise25Day() {
        accepts(DaysEdgesTest::threeBins, 5, "A", hall -> hall.countDay(0));
        accepts(DaysEdgesTest::threeBins, 10, "B", hall -> hall.countDay(1));
        accepts(DaysEdgesTest::threeBins, 20, "C", hall -> hall.countDay(2));
        Hall hall = threeBins();
        hall.pass(30);
        same("long ago", hall.countDay(0), 5);
        hall.count(0, 0, 1);
        same("counted on the day 30", hall.countDay(0), 35);
        hall.pass(1);
        hall.count(2, 0, 0);
        same("counted for a lot that is not there", hall.countDay(2), 51);
    }

    private static void promise25NoSuchBin() {
        Scene ends = () -> {
            Hall hall = Check.hallWith("B");
            hall.receive(0, 1, 99, 0);
            hall.receive(0, 1, 99, 39);
            return hall;
        };
        refuses(ends, INDEX, "bin -1", hall -> hall.countDay(-1));
        accepts(ends, 10, "bin 0", hall -> hall.countDay(0));
        accepts(ends, 10, "bin 39", hall -> hall.countDay(39));
        refuses(ends, INDEX, "bin 40", hall -> hall.countDay(40));
    }

    private static void promise25Empty() {
        refuses(DaysEdgesTest::threeBins, NO_ELEMENT, "a bin that never had units", hall -> hall.countDay(3));
        Scene emptied = () -> {
            Hall hall = threeBins();
            hall.move(0, 0, 3, 1);
            return hall;
        };
        refuses(emptied, NO_ELEMENT, "a bin that has no units any longer", hall -> hall.countDay(0));
        accepts(emptied, 5, "the bin that has them now", hall -> hall.countDay(3));
    }

    private static void promise25FirstListed() {
        refuses(Hall::new, INDEX, "no bin, all are empty", hall -> hall.countDay(40));
        refuses(Hall::new, INDEX, "no bin, all are empty", hall -> hall.countDay(-1));
    }
}
