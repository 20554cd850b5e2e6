import java.util.ArrayList;
import java.util.List;

/**
 * Arguments far outside, and sums of them, in each place where a method takes a number, alone and together: the
 * document asks for the exception that is listed first, and every answer stays what it was.
 */
public final class FarArgumentsTest extends Edges {
    private static final int MIN = Integer.MIN_VALUE;
    private static final int MAX = Integer.MAX_VALUE;
    // MIN + MAX is -1 and MAX + MAX is -2; MIN + MIN is 0, which is not far outside.
    private static final int[] FAR = {MIN, MAX, MIN + 1, MAX - 1, MIN + MAX, MAX + MAX, MIN + 30, MAX - 30, MAX - 60,
        MAX - 99, MIN + 99, MIN / 2, MAX / 2 + 1};
    private static final int DAYS = 300;
    private static final int CALLS_FOR_QUESTIONS = 150;

    interface FarCall {
        Object on(Hall hall, int[] arguments);
    }

    /**
     * A letter for each argument: i is the number of something that the object has been given, b that of a bin, a is
     * an argument with limits, l the number of a line. The near arguments stand where none is far outside.
     */
    private record Method(String name, String kinds, int[] near, FarCall call) {
    }

    private static final List<Method> METHODS = new ArrayList<>();

    public static void main(String[] args) {
        addMethods();
        all(FarArgumentsTest::oldHall, false, "an object on the day " + DAYS);
        all(Edges::allFull, false, "a full object");
        all(Hall::new, true, "a new object");
        categories();
        dueDaysOfNextLot();
        daysThatAreNear();
        linesOfEnded();
        CHECK.end("FarArgumentsTest");
    }

    private static void add(String name, String kinds, int[] near, FarCall call) {
        METHODS.add(new Method(name, kinds, near, call));
    }

    private static void addMethods() {
        add("addSubstitute", "iia", new int[] {0, 1, 1}, (hall, a) -> hall.addSubstitute(a[0], a[1], a[2]));
        add("receive", "iaab", new int[] {0, 1, DAYS, 0}, (hall, a) -> hall.receive(a[0], a[1], a[2], a[3]));
        add("move", "ibba", new int[] {0, 0, 1, 1}, (hall, a) -> hall.move(a[0], a[1], a[2], a[3]));
        add("dispose", "i", new int[] {0}, (hall, a) -> hall.dispose(a[0]));
        add("count", "bia", new int[] {0, 0, 1}, (hall, a) -> hall.count(a[0], a[1], a[2]));
        add("promise", "iaa", new int[] {0, 1, DAYS}, (hall, a) -> hall.promise(a[0], a[1], a[2], false));
        add("promise with substitutes", "iaa", new int[] {0, 1, DAYS},
                (hall, a) -> hall.promise(a[0], a[1], a[2], true));
        add("cancel", "i", new int[] {0}, (hall, a) -> hall.cancel(a[0]));
        add("pick", "i", new int[] {0}, (hall, a) -> hall.pick(a[0]));
        add("status", "i", new int[] {0}, (hall, a) -> hall.status(a[0]));
        add("quantity", "ii", new int[] {0, 0}, (hall, a) -> hall.quantity(a[0], a[1]));
        add("available", "ia", new int[] {0, DAYS}, (hall, a) -> hall.available(a[0], a[1]));
        add("availableByTrying", "ia", new int[] {0, DAYS}, (hall, a) -> hall.availableByTrying(a[0], a[1]));
        add("pickLines", "i", new int[] {0}, (hall, a) -> hall.pickLines(a[0]));
        add("pickBin", "il", new int[] {0, 0}, (hall, a) -> hall.pickBin(a[0], a[1]));
        add("pickLot", "il", new int[] {0, 0}, (hall, a) -> hall.pickLot(a[0], a[1]));
        add("pickQuantity", "il", new int[] {0, 0}, (hall, a) -> hall.pickQuantity(a[0], a[1]));
        add("walk", "i", new int[] {0}, (hall, a) -> hall.walk(a[0]));
        add("walkByTrying", "i", new int[] {0}, (hall, a) -> hall.walkByTrying(a[0]));
        add("pass", "a", new int[] {1}, (hall, a) -> hall.pass(a[0]));
        add("countDay", "b", new int[] {0}, (hall, a) -> hall.countDay(a[0]));
        add("stock", "ib", new int[] {0, 0}, (hall, a) -> hall.stock(a[0], a[1]));
        add("stockByJournal", "ib", new int[] {0, 0}, (hall, a) -> hall.stockByJournal(a[0], a[1]));
        add("load", "b", new int[] {0}, (hall, a) -> hall.load(a[0]));
        add("onHand", "i", new int[] {0}, (hall, a) -> hall.onHand(a[0]));
        add("expired", "i", new int[] {0}, (hall, a) -> hall.expired(a[0]));
        add("entryKind", "i", new int[] {0}, (hall, a) -> hall.entryKind(a[0]));
        add("entryLot", "i", new int[] {0}, (hall, a) -> hall.entryLot(a[0]));
        add("entryFrom", "i", new int[] {0}, (hall, a) -> hall.entryFrom(a[0]));
        add("entryTo", "i", new int[] {0}, (hall, a) -> hall.entryTo(a[0]));
        add("entryQuantity", "i", new int[] {0}, (hall, a) -> hall.entryQuantity(a[0]));
        add("onHandOn", "ia", new int[] {0, 0}, (hall, a) -> hall.onHandOn(a[0], a[1]));
    }

    /** On the day 300: two items, three lots of which one has expired, and a promise that is open. */
    private static Hall oldHall() {
        Hall hall = Check.hallWith("AB");
        hall.receive(1, 2, 0, 9);
        for (int passed = 0; passed < DAYS; passed += 30) {
            hall.pass(30);
        }
        hall.receive(0, 20, DAYS + 99, 0);
        hall.receive(1, 30, DAYS, 12);
        hall.promise(0, 7, DAYS + 60, false);
        return hall;
    }

    private static void all(Scene scene, boolean nothingGiven, String name) {
        String before = Snapshot.of(scene.make());
        for (Method method : METHODS) {
            CHECK.about(name + ", " + method.name + ": ");
            int combinations = 1;
            for (int place = 0; place < method.kinds.length(); place++) {
                combinations *= FAR.length + 1;
            }
            // The combination 0 has near arguments only, and may be accepted.
            int combination = 1;
            while (combination < combinations) {
                Hall hall = scene.make();
                while (combination < combinations && hall.callsLeft() > CALLS_FOR_QUESTIONS) {
                    one(hall, method, combination, nothingGiven);
                    combination++;
                }
                CHECK.same("what stands afterwards", Snapshot.of(hall), before);
            }
        }
        CHECK.about("");
    }

    private static void one(Hall hall, Method method, int combination, boolean nothingGiven) {
        int[] arguments = method.near.clone();
        StringBuilder what = new StringBuilder();
        boolean index = nothingGiven && method.kinds.indexOf('i') >= 0;
        boolean limits = false;
        int left = combination;
        for (int place = 0; place < arguments.length; place++) {
            int choice = left % (FAR.length + 1);
            left /= FAR.length + 1;
            char kind = method.kinds.charAt(place);
            if (choice > 0) {
                arguments[place] = FAR[choice - 1];
                index |= kind == 'i' || kind == 'b';
                limits |= kind == 'a';
            }
            what.append(place == 0 ? "(" : ", ").append(arguments[place]);
        }
        Class<?> due = index ? INDEX : limits ? ARGUMENT : NO_ELEMENT;
        CHECK.same(what + ")", thrownBy(hall, h -> method.call.on(h, arguments)),
                due.getSimpleName() + " thrown by WareHall");
    }

    /** The least and the greatest char, and sums of them: what goes round the end may be a category again. */
    private static void categories() {
        char least = Character.MIN_VALUE;
        char greatest = Character.MAX_VALUE;
        int[] sums = {least, greatest, least + least, least + greatest, greatest + greatest, greatest + 'A',
            greatest + 1 + '@', greatest + 1 + 'D', 'A' + 'A', MIN, MAX, MIN + MAX};
        for (int sum : sums) {
            refuses(() -> Check.hallWith("AB"), ARGUMENT, "addItem((char) " + sum + ")",
                    hall -> hall.addItem((char) sum));
            refuses(() -> Check.hallWith("ABCABC"), ARGUMENT, "a seventh addItem((char) " + sum + ")",
                    hall -> hall.addItem((char) sum));
        }
        for (int sum : new int[] {greatest + 1 + 'A', greatest + 1 + 'B', greatest + 'D', MIN + 'A'}) {
            accepts(() -> Check.hallWith("AB"), 2, "addItem((char) " + sum + ")", hall -> hall.addItem((char) sum));
        }
    }

    /** The due day of nextLot has no limits. */
    private static void dueDaysOfNextLot() {
        for (int due : new int[] {MIN, MIN + 1, MIN + MAX, MAX + MAX, MIN / 2, -1, MIN + MIN}) {
            accepts(FarArgumentsTest::oldHall, 1, "nextLot(0, " + due + ")", hall -> hall.nextLot(0, due));
            accepts(FarArgumentsTest::oldHall, 0, "nextLot(1, " + due + ")", hall -> hall.nextLot(1, due));
            accepts(Edges::allFull, 5, "nextLot(5, " + due + ")", hall -> hall.nextLot(5, due));
            refuses(FarArgumentsTest::oldHall, INDEX, "nextLot(2, " + due + ")", hall -> hall.nextLot(2, due));
        }
        for (int due : new int[] {MAX, MAX - 1, MAX - 99, MAX / 2 + 1}) {
            refuses(FarArgumentsTest::oldHall, NO_ELEMENT, "nextLot(0, " + due + ")", hall -> hall.nextLot(0, due));
            refuses(Edges::allFull, NO_ELEMENT, "nextLot(5, " + due + ")", hall -> hall.nextLot(5, due));
            refuses(FarArgumentsTest::oldHall, INDEX, "nextLot(2, " + due + ")", hall -> hall.nextLot(2, due));
        }
        for (int item : FAR) {
            for (int due : FAR) {
                Hall hall = oldHall();
                CHECK.same("nextLot(" + item + ", " + due + ")", thrownBy(hall, h -> h.nextLot(item, due)),
                        "IndexOutOfBoundsException thrown by WareHall");
            }
        }
    }

    /** A day that is added to the greatest or the least number, so that a sum in the class would go round the end. */
    private static void daysThatAreNear() {
        for (int day : new int[] {MAX - DAYS, MAX - DAYS - 60, MAX - DAYS - 99, MAX - DAYS + 1, MIN + DAYS,
            MIN + DAYS - 1, MIN + DAYS + 60, MIN + DAYS + 99}) {
            refuses(FarArgumentsTest::oldHall, ARGUMENT, "receive, " + day, hall -> hall.receive(0, 1, day, 3));
            refuses(FarArgumentsTest::oldHall, ARGUMENT, "promise, " + day, hall -> hall.promise(0, 1, day, false));
            refuses(FarArgumentsTest::oldHall, ARGUMENT, "available, " + day, hall -> hall.available(0, day));
            refuses(FarArgumentsTest::oldHall, ARGUMENT, "by trying, " + day, hall -> hall.availableByTrying(0, day));
            refuses(FarArgumentsTest::oldHall, ARGUMENT, "onHandOn, " + day, hall -> hall.onHandOn(0, day));
            refuses(FarArgumentsTest::oldHall, ARGUMENT, "pass, " + day, hall -> hall.pass(day));
        }
        // Units that would go round the end together with the 20 that the bin 0 and the 7 that the promise has.
        for (int units : new int[] {MAX - 20, MAX - 19, MAX - 7, MIN + 20, MIN + 30, -20, -7}) {
            refuses(FarArgumentsTest::oldHall, ARGUMENT, "receive of " + units,
                    hall -> hall.receive(0, units, DAYS, 0));
            refuses(FarArgumentsTest::oldHall, ARGUMENT, "move of " + units, hall -> hall.move(1, 0, 12, units));
            refuses(FarArgumentsTest::oldHall, ARGUMENT, "count of " + units, hall -> hall.count(0, 1, units));
            refuses(FarArgumentsTest::oldHall, ARGUMENT, "promise of " + units,
                    hall -> hall.promise(0, units, DAYS, false));
        }
    }

    /** Of a promise that has no lines, the state is told before the line. */
    private static void linesOfEnded() {
        for (int line : FAR) {
            for (int promise : new int[] {2, 3, 4}) {
                refuses(Edges::allStatuses, STATE, "pickBin of " + line, hall -> hall.pickBin(promise, line));
                refuses(Edges::allStatuses, STATE, "pickLot of " + line, hall -> hall.pickLot(promise, line));
                refuses(Edges::allStatuses, STATE, "pickQuantity of " + line,
                        hall -> hall.pickQuantity(promise, line));
            }
            refuses(Edges::allStatuses, NO_ELEMENT, "pickBin of a picked one", hall -> hall.pickBin(1, line));
            refuses(Edges::allStatuses, NO_ELEMENT, "pickLot of a picked one", hall -> hall.pickLot(1, line));
            refuses(Edges::allStatuses, NO_ELEMENT, "pickQuantity of a picked one",
                    hall -> hall.pickQuantity(1, line));
        }
    }
}
