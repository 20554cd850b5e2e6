import java.util.List;

/** An object that is full in every way: 6 items, 24 lots, 40 full bins, 20 promises, 150 entries. */
public final class LimitsTest extends Edges {
    private static final int[] ODD = {Integer.MIN_VALUE, -1, 0, 1, 5, 6, 9, 10, 19, 20, 23, 24, 30, 31, 39, 40, 60,
            61, 149, 150, Integer.MAX_VALUE};
    private static Scene scene = Hall::new;
    private static Hall asked = scene.make();

    public static void main(String[] args) {
        Hall full = fullHall();
        ask(full);
        full.pass(1);
        ask(full);
        breakTwenty();
        nothingElseIsThrown(LimitsTest::fullHall);
        nothingElseIsThrown(Hall::new);
        CHECK.end("LimitsTest");
    }

    private static Hall fullHall() {
        Hall hall = new Hall();
        for (int item = 0; item < 6; item++) {
            hall.addItem('C');
        }
        for (int item = 0; item < 6; item++) {
            for (int other = 0; other < 6; other++) {
                if (item != other) {
                    hall.addSubstitute(item, other, 9);
                }
            }
        }
        for (int lot = 0; lot < 24; lot++) {
            hall.receive(lot % 6, 30, 60, lot);
        }
        for (int bin = 24; bin < 40; bin++) {
            hall.count(bin, 23, 30);
        }
        for (int promise = 0; promise < 20; promise++) {
            CHECK.same("promise", hall.promise(5, 24, 60, false), promise);
        }
        for (int entry = 40; entry < 150; entry++) {
            hall.count(0, 0, entry % 2 == 0 ? 29 : 30);
        }
        return hall;
    }

    private static void ask(Hall hall) {
        CHECK.same("entries", hall.entries(), 150);
        CHECK.same("on hand", hall.onHand(5), 600);
        CHECK.same("on hand of the first", hall.onHand(0), 120);
        CHECK.same("expired", hall.expired(5), 0);
        CHECK.same("available", hall.available(5, 60), 120);
        CHECK.same("by trying", hall.availableByTrying(5, 60), 120);
        CHECK.same("next lot", hall.nextLot(5, 60), 5);
        CHECK.same("next lot", Check.outcome(() -> hall.nextLot(5, 61)), "NoSuchElementException");
        CHECK.same("lines", hall.pickLines(19), 1);
        CHECK.same("walk", hall.walk(19), 12);
        CHECK.same("walk by trying", hall.walkByTrying(19), 12);
        CHECK.same("by the journal", hall.stockByJournal(23, 39), 30);
        CHECK.same("on hand on", hall.onHandOn(5, 0), 600);
        CHECK.same("next count", hall.nextCount(), 0);
        CHECK.same("counts due", hall.countsDue(), 0);
        CHECK.same("pick", Check.outcome(() -> hall.pick(0)), "IllegalStateException");
        CHECK.same("promise", Check.outcome(() -> hall.promise(0, 1, 5, true)), "IllegalStateException");
        CHECK.same("receive", Check.outcome(() -> hall.receive(0, 1, 5, 0)), "IllegalStateException");
        CHECK.same("served", Check.outcome(hall::served), "NoSuchElementException");
    }

    private static void breakTwenty() {
        Hall hall = new Hall();
        hall.addItem('A');
        hall.receive(0, 20, 60, 0);
        for (int promise = 0; promise < 20; promise++) {
            hall.promise(0, 1, 60, false);
        }
        CHECK.same("one", hall.count(0, 0, 19), 1);
        CHECK.same("the last", hall.status(19), 'b');
        CHECK.same("none", hall.count(0, 0, 20), 0);
        CHECK.same("all the others", hall.count(0, 0, 0), 19);
        CHECK.same("the first", hall.status(0), 'b');

        Hall all = new Hall();
        all.addItem('A');
        all.receive(0, 20, 60, 0);
        for (int promise = 0; promise < 20; promise++) {
            all.promise(0, 1, 60, false);
        }
        CHECK.same("all at once", all.count(0, 0, 0), 20);
        CHECK.same("none served", all.served(), 0.0f);
    }

    /** Odd numbers everywhere: whatever is thrown is one of the exceptions of the face, and WareHall throws it. */
    private static void nothingElseIsThrown(Scene newScene) {
        scene = newScene;
        asked = scene.make();
        for (int a : ODD) {
            one(a);
            for (int b : ODD) {
                two(a, b);
            }
        }
    }

    private static void allowed(HallCall call) {
        if (asked.callsLeft() == 0) {
            asked = scene.make();
        }
        String thrown = thrownBy(asked, call);
        boolean right = thrown.startsWith("answer ");
        for (Class<?> exception : List.of(INDEX, ARGUMENT, STATE, NO_ELEMENT, UNSUPPORTED)) {
            right |= thrown.equals(exception.getSimpleName() + " thrown by WareHall");
        }
        CHECK.same(thrown + " is allowed", right, true);
    }

    private static void one(int a) {
        allowed(h -> h.addItem((char) a));
        allowed(h -> h.dispose(a));
        allowed(h -> h.cancel(a));
        allowed(h -> h.pick(a));
        allowed(h -> h.status(a));
        allowed(h -> h.pickLines(a));
        allowed(h -> h.walk(a));
        allowed(h -> h.walkByTrying(a));
        allowed(h -> h.pass(a));
        allowed(h -> h.countDay(a));
        allowed(h -> h.load(a));
        allowed(h -> h.onHand(a));
        allowed(h -> h.expired(a));
        allowed(h -> h.entryKind(a));
        allowed(h -> h.entryLot(a));
        allowed(h -> h.entryFrom(a));
        allowed(h -> h.entryTo(a));
        allowed(h -> h.entryQuantity(a));
        allowed(h -> h.served());
        allowed(h -> h.nextCount());
        allowed(h -> h.countsDue());
    }

    private static void two(int a, int b) {
        allowed(h -> h.quantity(a, b));
        allowed(h -> h.available(a, b));
        allowed(h -> h.availableByTrying(a, b));
        allowed(h -> h.pickBin(a, b));
        allowed(h -> h.pickLot(a, b));
        allowed(h -> h.pickQuantity(a, b));
        allowed(h -> h.stock(a, b));
        allowed(h -> h.stockByJournal(a, b));
        allowed(h -> h.nextLot(a, b));
        allowed(h -> h.onHandOn(a, b));
        for (int c : ODD) {
            allowed(h -> h.addSubstitute(a, b, c));
            allowed(h -> h.count(a, b, c));
            allowed(h -> h.promise(a, b, c, true));
            allowed(h -> h.promise(a, b, c, false));
            for (int d : new int[] {-1, 0, 1, 30, 39, 40}) {
                allowed(h -> h.receive(a, b, c, d));
                allowed(h -> h.move(a, b, c, d));
            }
        }
    }
}
