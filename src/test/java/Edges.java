import java.util.NoSuchElementException;
import java.util.Set;
import java.util.TreeSet;
import java.util.regex.Matcher;
import java.util.regex.Pattern;

/** What the tests of single sentences have in common. */
abstract class Edges {
    static final Class<IndexOutOfBoundsException> INDEX = IndexOutOfBoundsException.class;
    static final Class<IllegalArgumentException> ARGUMENT = IllegalArgumentException.class;
    static final Class<IllegalStateException> STATE = IllegalStateException.class;
    static final Class<NoSuchElementException> NO_ELEMENT = NoSuchElementException.class;
    static final Class<UnsupportedOperationException> UNSUPPORTED = UnsupportedOperationException.class;
    static final Check CHECK = new Check();
    static final int JOURNAL = 150;
    private static final Pattern THROWN = Pattern.compile("\\w+(Exception|Error)");
    private static final Set<String> OF_THE_FACE = Set.of(INDEX.getSimpleName(), ARGUMENT.getSimpleName(),
            STATE.getSimpleName(), NO_ELEMENT.getSimpleName(), UNSUPPORTED.getSimpleName());

    /** Makes the same object again and again. */
    interface Scene {
        Hall make();
    }

    interface HallCall {
        Object on(Hall hall);
    }

    /** On a new object of the scene the call is accepted, and has this answer. */
    static void accepts(Scene scene, Object due, String what, HallCall call) {
        Hall hall = scene.make();
        CHECK.same(what, Check.outcome(() -> call.on(hall)), due);
    }

    /**
     * On a new object of the scene the call throws this exception, by a throw of its own; afterwards the object
     * answers as a twin does, on which the call was not made, at once and in all that is done with both later.
     */
    static void refuses(Scene scene, Class<? extends RuntimeException> due, String what, HallCall call) {
        Hall hall = scene.make();
        Hall twin = scene.make();
        CHECK.same(what, thrownBy(hall, call), due.getSimpleName() + " thrown by WareHall");
        sameTexts("what stands after " + what, Snapshot.of(hall), Snapshot.of(twin));
        sameTexts("what follows after " + what, Aftermath.of(hall), Aftermath.of(twin));
    }

    private static void sameTexts(String what, String got, String due) {
        CHECK.same(what, got, due);
        Set<String> others = new TreeSet<>();
        Matcher thrown = THROWN.matcher(got);
        while (thrown.find()) {
            others.add(thrown.group());
        }
        others.removeAll(OF_THE_FACE);
        CHECK.same("exceptions that the face does not have, " + what, others, Set.of());
    }

    /** The exception and where it was thrown; the machine's own come from elsewhere or have other names. */
    static String thrownBy(Hall hall, HallCall call) {
        try {
            return "answer " + call.on(hall);
        } catch (RuntimeException e) {
            StackTraceElement[] trace = e.getStackTrace();
            String thrower = trace.length == 0 ? "the machine" : trace[0].getClassName();
            return e.getClass().getSimpleName() + " thrown by " + thrower;
        }
    }

    static void same(String what, Object got, Object due) {
        CHECK.same(what, got, due);
    }

    /** Makes entries until so many are left: a unit of the lot goes to and fro between two bins. */
    static Hall leaveEntries(Hall hall, int left, int lot, int bin, int other) {
        GoodsTest.fillJournal(hall, lot, bin, other, left);
        same("entries before", hall.entries(), JOURNAL - left);
        return hall;
    }

    static String entry(Hall hall, int entry) {
        return hall.entryKind(entry) + " lot " + hall.entryLot(entry) + " from " + hall.entryFrom(entry)
                + " to " + hall.entryTo(entry) + " of " + hall.entryQuantity(entry);
    }

    /** All pick lines of a promise, each as bin/lot/quantity. */
    static String lines(Hall hall, int promise) {
        StringBuilder text = new StringBuilder();
        for (int line = 0; line < hall.pickLines(promise); line++) {
            text.append(line == 0 ? "" : " ").append(hall.pickBin(promise, line)).append('/');
            text.append(hall.pickLot(promise, line)).append('/').append(hall.pickQuantity(promise, line));
        }
        return text.toString();
    }

    static String quantities(Hall hall, int promise, int items) {
        StringBuilder text = new StringBuilder();
        for (int item = 0; item < items; item++) {
            text.append(item == 0 ? "" : " ").append(hall.quantity(promise, item));
        }
        return text.toString();
    }

    static String statuses(Hall hall, int promises) {
        StringBuilder text = new StringBuilder();
        for (int promise = 0; promise < promises; promise++) {
            text.append(hall.status(promise));
        }
        return text.toString();
    }

    /** One promise of each status: 0 is open, 1 picked, 2 cancelled, 3 lapsed, 4 broken; the day is 1. */
    static Hall allStatuses() {
        Hall hall = Check.hallWith("A");
        hall.receive(0, 20, 50, 3);
        hall.receive(0, 10, 50, 14);
        hall.promise(0, 4, 20, false);
        hall.promise(0, 3, 20, false);
        hall.promise(0, 2, 20, false);
        hall.promise(0, 2, 0, false);
        hall.promise(0, 19, 20, false);
        hall.pick(1);
        hall.cancel(2);
        hall.pass(1);
        hall.count(14, 1, 4);
        same("statuses before", statuses(hall, 5), "opclb");
        return hall;
    }

    /** 6 items, 24 lots, 20 open promises, a full journal and 40 bins of which the first 24 are full. */
    static Hall allFull() {
        Hall hall = Check.hallWith("ABCABC");
        for (int lot = 0; lot < 24; lot++) {
            hall.receive(lot % 6, 30, 60, lot);
        }
        for (int promise = 0; promise < 20; promise++) {
            hall.promise(promise % 6, 1, 60, false);
        }
        return leaveEntries(hall, 0, 0, 0, 24);
    }
}
