/** An object that is full in every way: 6 items, 24 lots, 40 full bins, 20 promises, 150 entries. */
public final class LimitsTest {
    private static final Check CHECK = new Check();
    private static final int[] ODD = {Integer.MIN_VALUE, -1, 0, 1, 5, 6, 9, 10, 19, 20, 23, 24, 30, 31, 39, 40, 60,
            61, 149, 150, Integer.MAX_VALUE};

    public static void main(String[] args) {
        WareHall hall = fullHall();
        ask(hall);
        hall.pass(1);
        ask(hall);
        breakTwenty();
        nothingElseIsThrown();
        CHECK.end("LimitsTest");
    }

    private static WareHall fullHall() {
        WareHall hall = new WareHall();
        for (int item = 0; item < 6; item++) {
            hall.addItem('C');
        }
        for (int item = 0; item < 6; item++) {
            for (int other = 0; other < 6; other++) {
                if (item != other) {
                    hall.addSubstitute(item, other, 9);
                }
            }
        }
        for (int lot = 0; lot < 24; lot++) {
            hall.receive(lot % 6, 30, 60, lot);
        }
        for (int bin = 24; bin < 40; bin++) {
            hall.count(bin, 23, 30);
        }
        for (int promise = 0; promise < 20; promise++) {
            CHECK.same("promise", hall.promise(5, 24, 60, false), promise);
        }
        for (int entry = 40; entry < 150; entry++) {
            hall.count(0, 0, entry % 2 == 0 ? 29 : 30);
        }
        return hall;
    }

    private static void ask(WareHall hall) {
        CHECK.same("entries", hall.entries(), 150);
        CHECK.same("on hand", hall.onHand(5), 600);
        CHECK.same("on hand of the first", hall.onHand(0), 120);
        CHECK.same("expired", hall.expired(5), 0);
        CHECK.same("available", hall.available(5, 60), 120);
        CHECK.same("by trying", hall.availableByTrying(5, 60), 120);
        CHECK.same("next lot", hall.nextLot(5, 60), 5);
        CHECK.same("next lot", Check.outcome(() -> hall.nextLot(5, 61)), "NoSuchElementException");
        CHECK.same("lines", hall.pickLines(19), 1);
        CHECK.same("walk", hall.walk(19), 12);
        CHECK.same("walk by trying", hall.walkByTrying(19), 12);
        CHECK.same("by the journal", hall.stockByJournal(23, 39), 30);
        CHECK.same("on hand on", hall.onHandOn(5, 0), 600);
        CHECK.same("next count", hall.nextCount(), 0);
        CHECK.same("counts due", hall.countsDue(), 0);
        CHECK.same("pick", Check.outcome(() -> hall.pick(0)), "IllegalStateException");
        CHECK.same("promise", Check.outcome(() -> hall.promise(0, 1, 5, true)), "IllegalStateException");
        CHECK.same("receive", Check.outcome(() -> hall.receive(0, 1, 5, 0)), "IllegalStateException");
        CHECK.same("served", Check.outcome(hall::served), "NoSuchElementException");
    }

    private static void breakTwenty() {
        WareHall hall = new WareHall();
        hall.addItem('A');
        hall.receive(0, 20, 60, 0);
        for (int promise = 0; promise < 20; promise++) {
            hall.promise(0, 1, 60, false);
        }
        CHECK.same("one", hall.count(0, 0, 19), 1);
        CHECK.same("the last", hall.status(19), 'b');
        CHECK.same("none", hall.count(0, 0, 20), 0);
        CHECK.same("all the others", hall.count(0, 0, 0), 19);
        CHECK.same("the first", hall.status(0), 'b');

        WareHall all = new WareHall();
        all.addItem('A');
        all.receive(0, 20, 60, 0);
        for (int promise = 0; promise < 20; promise++) {
            all.promise(0, 1, 60, false);
        }
        CHECK.same("all at once", all.count(0, 0, 0), 20);
        CHECK.same("none served", all.served(), 0.0f);
    }

    /** Odd numbers everywhere: whatever is thrown is one of the exceptions of the face, by its own name. */
    private static void nothingElseIsThrown() {
        for (WareHall hall : new WareHall[] {fullHall(), new WareHall()}) {
            for (int a : ODD) {
                one(hall, a);
                for (int b : ODD) {
                    two(hall, a, b);
                }
            }
        }
    }

    private static void allowed(Check.Call call) {
        try {
            call.run();
        } catch (RuntimeException e) {
            // An exception that the machine throws has a name of its own or comes from within the library.
            String thrown = e.getClass().getSimpleName() + " " + e.getStackTrace()[0].getClassName();
            boolean right = thrown.equals("IndexOutOfBoundsException WareHall")
                    || thrown.equals("IllegalArgumentException WareHall")
                    || thrown.equals("IllegalStateException WareHall")
                    || thrown.equals("NoSuchElementException WareHall")
                    || thrown.equals("UnsupportedOperationException WareHall");
            CHECK.same(thrown + " is allowed", right, true);
        }
    }

    private static void one(WareHall hall, int a) {
        allowed(() -> hall.addItem((char) a));
        allowed(() -> hall.dispose(a));
        allowed(() -> hall.cancel(a));
        allowed(() -> hall.pick(a));
        allowed(() -> hall.status(a));
        allowed(() -> hall.pickLines(a));
        allowed(() -> hall.walk(a));
        allowed(() -> hall.walkByTrying(a));
        allowed(() -> hall.pass(a));
        allowed(() -> hall.countDay(a));
        allowed(() -> hall.load(a));
        allowed(() -> hall.onHand(a));
        allowed(() -> hall.expired(a));
        allowed(() -> hall.entryKind(a));
        allowed(() -> hall.entryLot(a));
        allowed(() -> hall.entryFrom(a));
        allowed(() -> hall.entryTo(a));
        allowed(() -> hall.entryQuantity(a));
        allowed(() -> hall.served());
        allowed(() -> hall.nextCount());
        allowed(() -> hall.countsDue());
    }

    private static void two(WareHall hall, int a, int b) {
        allowed(() -> hall.quantity(a, b));
        allowed(() -> hall.available(a, b));
        allowed(() -> hall.availableByTrying(a, b));
        allowed(() -> hall.pickBin(a, b));
        allowed(() -> hall.pickLot(a, b));
        allowed(() -> hall.pickQuantity(a, b));
        allowed(() -> hall.stock(a, b));
        allowed(() -> hall.stockByJournal(a, b));
        allowed(() -> hall.nextLot(a, b));
        allowed(() -> hall.onHandOn(a, b));
        for (int c : ODD) {
            allowed(() -> hall.addSubstitute(a, b, c));
            allowed(() -> hall.count(a, b, c));
            allowed(() -> hall.promise(a, b, c, true));
            allowed(() -> hall.promise(a, b, c, false));
            for (int d : new int[] {-1, 0, 1, 30, 39, 40}) {
                allowed(() -> hall.receive(a, b, c, d));
                allowed(() -> hall.move(a, b, c, d));
            }
        }
    }
}
