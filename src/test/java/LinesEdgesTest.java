/** Promises 15 to 20, sentence by sentence. */
public final class LinesEdgesTest extends Edges {
    private static final String FIRST_LISTED = "If several exceptions apply, the one that is listed first is thrown.";
    private static final String NO_PROMISE = "Throws `IndexOutOfBoundsException` if there is no such promise";
    private static final String NEITHER = "Throws `IllegalStateException` if it is neither open nor was picked";
    private static final String NO_LINE = "Throws `NoSuchElementException` if it has no such line";
    private static final int[] ENDED = {2, 3, 4};

    public static void main(String[] args) {
        sentences().run(CHECK, "LinesEdgesTest");
    }

    static Sentences sentences() {
        Sentences all = new Sentences();
        all.at("Promise 15")
                .say("Returns the number of pick lines of a promise that is open or was picked.",
                        LinesEdgesTest::promise15OpenOrPicked)
                .say("Returns the number of pick lines.", LinesEdgesTest::promise15Number)
                .say(NO_PROMISE, LinesEdgesTest::promise15NoSuchPromise)
                .say(NEITHER, LinesEdgesTest::promise15NeitherOpenNorPicked);
        addLineCalls(all);
        all.at("Promise 19")
                .say("Returns the length of the shortest walk for the pick lines of a promise, found aisle by aisle.",
                        LinesEdgesTest::promise19Shortest)
                .say("Returns the length.", LinesEdgesTest::promise19OpenAndPicked)
                .say(NO_PROMISE, LinesEdgesTest::promise19NoSuchPromise)
                .say(NEITHER, LinesEdgesTest::promise19NeitherOpenNorPicked)
                .at("Promise 20")
                .say("Returns the same length, found by trying all walks.", LinesEdgesTest::promise20SameLength)
                .say("Returns the length.", LinesEdgesTest::promise20OpenAndPicked)
                .say(NO_PROMISE, LinesEdgesTest::promise20NoSuchPromise)
                .say(NEITHER, LinesEdgesTest::promise20NeitherOpenNorPicked);
        return all.at("Terms, Exceptions")
                .say(FIRST_LISTED, LinesEdgesTest::promise16FirstListed)
                .say(FIRST_LISTED, LinesEdgesTest::promise17FirstListed)
                .say(FIRST_LISTED, LinesEdgesTest::promise18FirstListed);
    }

    private static void addLineCalls(Sentences all) {
        all.at("Promise 16")
                .say("Returns the bin of a pick line.", LinesEdgesTest::promise16OpenAndPicked)
                .say("Returns the number of the bin.", LinesEdgesTest::promise16OpenAndPicked)
                .say(NO_PROMISE, LinesEdgesTest::promise16NoSuchPromise)
                .say(NEITHER, LinesEdgesTest::promise16NeitherOpenNorPicked)
                .say(NO_LINE, LinesEdgesTest::promise16NoSuchLine)
                .at("Promise 17")
                .say("Returns the lot of a pick line.", LinesEdgesTest::promise17OpenAndPicked)
                .say("Returns the number of the lot.", LinesEdgesTest::promise17OpenAndPicked)
                .say(NO_PROMISE, LinesEdgesTest::promise17NoSuchPromise)
                .say(NEITHER, LinesEdgesTest::promise17NeitherOpenNorPicked)
                .say(NO_LINE, LinesEdgesTest::promise17NoSuchLine)
                .at("Promise 18")
                .say("Returns the quantity of a pick line.", LinesEdgesTest::promise18OpenAndPicked)
                .say("Returns the number of units.", LinesEdgesTest::promise18OpenAndPicked)
                .say(NO_PROMISE, LinesEdgesTest::promise18NoSuchPromise)
                .say(NEITHER, LinesEdgesTest::promise18NeitherOpenNorPicked)
                .say(NO_LINE, LinesEdgesTest::promise18NoSuchLine);
    }

    interface LineCall {
        int on(Hall hall, int promise, int line);
    }

    interface PromiseCall {
        int on(Hall hall, int promise);
    }

    /** The promise 0 has the lines 8/1/5 19/0/4 19/2/2 33/0/3 at first, and so it can be picked. */
    private static Hall fourLines() {
        Hall hall = Check.hallWith("AB");
        hall.addSubstitute(0, 1, 1);
        hall.receive(0, 7, 20, 19);
        hall.receive(0, 5, 10, 8);
        hall.receive(1, 9, 20, 19);
        hall.move(0, 19, 33, 3);
        hall.promise(0, 14, 10, true);
        same("lines before", lines(hall, 0), "8/1/5 19/0/4 19/2/2 33/0/3");
        return hall;
    }

    private static Hall fourPicked() {
        Hall hall = fourLines();
        hall.pick(0);
        return hall;
    }

    private static Hall twenty() {
        Hall hall = Check.hallWith("A");
        hall.receive(0, 20, 20, 19);
        for (int promise = 0; promise < 20; promise++) {
            hall.promise(0, 1, 10, false);
        }
        return hall;
    }

    private static void noSuchPromise(PromiseCall call) {
        refuses(Edges::allStatuses, INDEX, "promise -1", hall -> call.on(hall, -1));
        refuses(Edges::allStatuses, INDEX, "promise 5 of 5", hall -> call.on(hall, 5));
        refuses(Hall::new, INDEX, "promise 0 of none", hall -> call.on(hall, 0));
        refuses(LinesEdgesTest::twenty, INDEX, "promise 20 of 20", hall -> call.on(hall, 20));
        same("promise 19 of 20", thrownBy(twenty(), hall -> call.on(hall, 19)).startsWith("answer "), true);
        same("promise 0 of 20", thrownBy(twenty(), hall -> call.on(hall, 0)).startsWith("answer "), true);
    }

    private static void neitherOpenNorPicked(PromiseCall call) {
        same("an open one", thrownBy(allStatuses(), hall -> call.on(hall, 0)).startsWith("answer "), true);
        same("a picked one", thrownBy(allStatuses(), hall -> call.on(hall, 1)).startsWith("answer "), true);
        refuses(Edges::allStatuses, STATE, "a cancelled one", hall -> call.on(hall, 2));
        refuses(Edges::allStatuses, STATE, "a lapsed one", hall -> call.on(hall, 3));
        refuses(Edges::allStatuses, STATE, "a broken one", hall -> call.on(hall, 4));
    }

    private static void noSuchLine(LineCall call) {
        for (Scene scene : new Scene[] {LinesEdgesTest::fourLines, LinesEdgesTest::fourPicked}) {
            refuses(scene, NO_ELEMENT, "line -1", hall -> call.on(hall, 0, -1));
            same("line 0", thrownBy(scene.make(), hall -> call.on(hall, 0, 0)).startsWith("answer "), true);
            same("line 3", thrownBy(scene.make(), hall -> call.on(hall, 0, 3)).startsWith("answer "), true);
            refuses(scene, NO_ELEMENT, "line 4 of 4", hall -> call.on(hall, 0, 4));
            refuses(scene, NO_ELEMENT, "line 60 of 4", hall -> call.on(hall, 0, 60));
        }
        // Another promise with more lines was asked for before.
        Scene oneLine = () -> {
            Hall hall = fourLines();
            hall.promise(1, 1, 10, false);
            same("four lines", hall.pickLines(0), 4);
            return hall;
        };
        refuses(oneLine, NO_ELEMENT, "line 1 of 1", hall -> call.on(hall, 1, 1));
    }

    private static void lineFirstListed(LineCall call) {
        for (int line : new int[] {-1, 4, 60}) {
            refuses(LinesEdgesTest::fourLines, INDEX, "no promise, no line", hall -> call.on(hall, 1, line));
            refuses(Edges::allStatuses, INDEX, "no promise, no line", hall -> call.on(hall, -1, line));
            for (int promise : ENDED) {
                refuses(Edges::allStatuses, STATE, "an ended one, no line", hall -> call.on(hall, promise, line));
            }
        }
    }

    /** The answers for the four lines, for an open promise and for the same one when it was picked. */
    private static void fourAnswers(LineCall call, int... due) {
        for (int l = 0; l < 4; l++) {
            int line = l;
            accepts(LinesEdgesTest::fourLines, due[line], "open: line " + line, hall -> call.on(hall, 0, line));
            accepts(LinesEdgesTest::fourPicked, due[line], "picked: line " + line, hall -> call.on(hall, 0, line));
        }
    }

    // Promise 15

    private static void promise15OpenOrPicked() {
        accepts(LinesEdgesTest::fourLines, 4, "open", hall -> hall.pickLines(0));
        accepts(LinesEdgesTest::fourPicked, 4, "picked", hall -> hall.pickLines(0));
        Hall hall = fourLines();
        hall.move(0, 19, 33, 4);
        same("open, after its goods were moved together", hall.pickLines(0), 3);
        Hall later = fourPicked();
        later.pass(30);
        same("picked, thirty days later", later.pickLines(0), 4);
    }

    private static void promise15Number() {
        Hall one = Check.hallWith("A");
        one.receive(0, 30, 20, 19);
        one.promise(0, 30, 20, false);
        same("the least number", one.pickLines(0), 1);
        Hall sixty = Check.hallWith("A");
        sixty.receive(0, 30, 20, 0);
        sixty.receive(0, 30, 20, 39);
        for (int step = 1; step < 30; step++) {
            sixty.move(0, 0, step, 1);
            sixty.move(1, 39, 39 - step, 1);
        }
        sixty.promise(0, 60, 20, false);
        same("the greatest number", sixty.pickLines(0), 60);
        same("the last line", sixty.pickBin(0, 59), 30);
        same("no line behind it", Check.outcome(() -> sixty.pickBin(0, 60)), "NoSuchElementException");
        sixty.pick(0);
        same("the greatest number, picked", sixty.pickLines(0), 60);
        same("the last line, picked", sixty.pickBin(0, 59), 30);
    }

    private static void promise15NoSuchPromise() {
        noSuchPromise(Hall::pickLines);
    }

    private static void promise15NeitherOpenNorPicked() {
        neitherOpenNorPicked(Hall::pickLines);
    }

    // Promises 16 to 18

    private static void promise16OpenAndPicked() {
        fourAnswers(Hall::pickBin, 8, 19, 19, 33);
    }

    private static void promise16NoSuchPromise() {
        noSuchPromise((hall, promise) -> hall.pickBin(promise, 0));
    }

    private static void promise16NeitherOpenNorPicked() {
        neitherOpenNorPicked((hall, promise) -> hall.pickBin(promise, 0));
    }

    private static void promise16NoSuchLine() {
        noSuchLine(Hall::pickBin);
    }

    private static void promise16FirstListed() {
        lineFirstListed(Hall::pickBin);
    }

    private static void promise17OpenAndPicked() {
        fourAnswers(Hall::pickLot, 1, 0, 2, 0);
    }

    private static void promise17NoSuchPromise() {
        noSuchPromise((hall, promise) -> hall.pickLot(promise, 0));
    }

    private static void promise17NeitherOpenNorPicked() {
        neitherOpenNorPicked((hall, promise) -> hall.pickLot(promise, 0));
    }

    private static void promise17NoSuchLine() {
        noSuchLine(Hall::pickLot);
    }

    private static void promise17FirstListed() {
        lineFirstListed(Hall::pickLot);
    }

    private static void promise18OpenAndPicked() {
        fourAnswers(Hall::pickQuantity, 5, 4, 2, 3);
    }

    private static void promise18NoSuchPromise() {
        noSuchPromise((hall, promise) -> hall.pickQuantity(promise, 0));
    }

    private static void promise18NeitherOpenNorPicked() {
        neitherOpenNorPicked((hall, promise) -> hall.pickQuantity(promise, 0));
    }

    private static void promise18NoSuchLine() {
        noSuchLine(Hall::pickQuantity);
    }

    private static void promise18FirstListed() {
        lineFirstListed(Hall::pickQuantity);
    }

    // Promises 19 and 20

    /** An open promise with one line in each of these bins. */
    private static Hall linesIn(int... bins) {
        Hall hall = Check.hallWith("A");
        hall.receive(0, bins.length, 20, bins[0]);
        for (int i = 1; i < bins.length; i++) {
            hall.move(0, bins[0], bins[i], 1);
        }
        hall.promise(0, bins.length, 20, false);
        same("lines before", hall.pickLines(0), bins.length);
        return hall;
    }

    private static void shortest(PromiseCall call) {
        accepts(() -> linesIn(0), 2, "the nearest bin", hall -> call.on(hall, 0));
        accepts(() -> linesIn(39), 44, "the farthest bin", hall -> call.on(hall, 0));
        // The back of the aisle is reached more cheaply across it, as soon as two aisles gain by it.
        accepts(() -> linesIn(4, 14), 28, "bins 4 and 14: from the front", hall -> call.on(hall, 0));
        accepts(() -> linesIn(5, 14), 30, "bins 5 and 14: both ways as long", hall -> call.on(hall, 0));
        accepts(() -> linesIn(5, 15), 30, "bins 5 and 15: across", hall -> call.on(hall, 0));
        accepts(() -> linesIn(9, 19, 29), 40, "three back ends", hall -> call.on(hall, 0));
        accepts(() -> linesIn(9, 19, 29, 39), 50, "four back ends", hall -> call.on(hall, 0));
        accepts(() -> linesIn(9, 10, 29, 30), 68, "ends and fronts in turn", hall -> call.on(hall, 0));
        accepts(() -> linesIn(0, 9, 10, 19, 20, 29, 30, 39), 68, "all ends", hall -> call.on(hall, 0));
        accepts(LinesEdgesTest::fourLines, 48, "bins 8, 19 and 33", hall -> call.on(hall, 0));
    }

    private static void openAndPicked(PromiseCall call) {
        accepts(LinesEdgesTest::fourPicked, 48, "picked", hall -> call.on(hall, 0));
        Scene otherGoods = () -> {
            Hall hall = fourPicked();
            hall.receive(0, 9, 30, 0);
            hall.promise(0, 9, 10, false);
            return hall;
        };
        accepts(otherGoods, 48, "picked, other goods there", hall -> call.on(hall, 0));
        accepts(otherGoods, 2, "open, other goods there", hall -> call.on(hall, 1));
        Scene moved = () -> {
            Hall hall = linesIn(39);
            hall.move(0, 39, 0, 1);
            return hall;
        };
        accepts(moved, 2, "open, its goods were moved", hall -> call.on(hall, 0));
    }

    private static void promise19Shortest() {
        shortest(Hall::walk);
    }

    private static void promise19OpenAndPicked() {
        openAndPicked(Hall::walk);
    }

    private static void promise19NoSuchPromise() {
        noSuchPromise(Hall::walk);
    }

    private static void promise19NeitherOpenNorPicked() {
        neitherOpenNorPicked(Hall::walk);
    }

    private static void promise20SameLength() {
        shortest(Hall::walkByTrying);
    }

    private static void promise20OpenAndPicked() {
        openAndPicked(Hall::walkByTrying);
    }

    private static void promise20NoSuchPromise() {
        noSuchPromise(Hall::walkByTrying);
    }

    private static void promise20NeitherOpenNorPicked() {
        neitherOpenNorPicked(Hall::walkByTrying);
    }
}
