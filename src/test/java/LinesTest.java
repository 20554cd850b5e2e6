import java.util.NoSuchElementException;

/** Promises 15 to 20. */
public final class LinesTest {
    private static final Check CHECK = new Check();
    private static final Class<IndexOutOfBoundsException> INDEX = IndexOutOfBoundsException.class;
    private static final Class<IllegalStateException> STATE = IllegalStateException.class;
    private static final Class<NoSuchElementException> NO_ELEMENT = NoSuchElementException.class;

    public static void main(String[] args) {
        orderOfLots();
        orderOfRoute();
        sameBinByLot();
        onlyWhatLastsAndIsNeeded();
        linesFollowTheGoods();
        linesOfPickedStay();
        sixtyLines();
        wrongLines();
        endedPromises();
        walks();
        CHECK.end("LinesTest");
    }

    /** The lines as "bin/lot/quantity", one after the other. */
    private static void lines(Hall hall, int promise, String... due) {
        CHECK.same("pickLines", hall.pickLines(promise), due.length);
        for (int line = 0; line < Math.min(due.length, hall.pickLines(promise)); line++) {
            String got = hall.pickBin(promise, line) + "/" + hall.pickLot(promise, line) + "/"
                    + hall.pickQuantity(promise, line);
            CHECK.same("line " + line, got, due[line]);
        }
    }

    private static void orderOfLots() {
        Hall hall = Check.hallWith("A");
        hall.receive(0, 5, 20, 0);
        hall.receive(0, 5, 10, 1);
        hall.receive(0, 5, 20, 2);
        hall.receive(0, 5, 15, 3);
        hall.promise(0, 12, 5, false);
        lines(hall, 0, "0/0/2", "1/1/5", "3/3/5");
        hall.promise(0, 6, 16, false);
        lines(hall, 1, "0/0/5", "2/2/1");
    }

    private static void orderOfRoute() {
        Hall hall = Check.hallWith("A");
        int[] route = {3, 8, 19, 15, 11, 20, 29, 38, 30};
        hall.receive(0, 18, 20, 11);
        for (int bin : route) {
            if (bin != 11) {
                hall.move(0, 11, bin, 2);
            }
        }
        hall.promise(0, 18, 5, false);
        lines(hall, 0, "3/0/2", "8/0/2", "19/0/2", "15/0/2", "11/0/2", "20/0/2", "29/0/2", "38/0/2", "30/0/2");
        hall.cancel(0);
        hall.promise(0, 7, 5, false);
        lines(hall, 1, "3/0/2", "8/0/2", "19/0/2", "15/0/1");
    }

    private static void sameBinByLot() {
        Hall hall = Check.hallWith("AB");
        hall.addSubstitute(1, 0, 1);
        hall.receive(0, 5, 20, 14);
        hall.receive(1, 5, 20, 14);
        hall.receive(1, 5, 10, 14);
        hall.promise(1, 13, 5, true);
        lines(hall, 0, "14/0/3", "14/1/5", "14/2/5");
    }

    private static void onlyWhatLastsAndIsNeeded() {
        Hall hall = Check.hallWith("AB");
        hall.receive(0, 5, 4, 0);
        hall.receive(0, 5, 5, 1);
        hall.receive(1, 5, 5, 2);
        hall.promise(0, 5, 5, false);
        lines(hall, 0, "1/1/5");
        hall.promise(0, 1, 4, false);
        lines(hall, 1, "0/0/1");
        hall.pass(4);
        lines(hall, 1, "0/0/1");
    }

    private static void linesFollowTheGoods() {
        Hall hall = Check.hallWith("A");
        hall.receive(0, 9, 20, 33);
        hall.promise(0, 5, 5, false);
        lines(hall, 0, "33/0/5");
        hall.move(0, 33, 12, 3);
        lines(hall, 0, "12/0/3", "33/0/2");
        hall.count(33, 0, 2);
        hall.receive(0, 1, 5, 39);
        lines(hall, 0, "12/0/3", "39/1/1", "33/0/1");
    }

    private static void linesOfPickedStay() {
        Hall hall = Check.hallWith("A");
        hall.receive(0, 9, 20, 33);
        hall.receive(0, 9, 19, 2);
        hall.promise(0, 12, 5, false);
        hall.promise(0, 2, 5, false);
        hall.pick(0);
        hall.pick(1);
        hall.receive(0, 9, 5, 0);
        hall.count(33, 0, 0);
        hall.pass(30);
        lines(hall, 0, "2/1/9", "33/0/3");
        lines(hall, 1, "33/0/2");
        CHECK.same("walk", hall.walk(0), 38);
        CHECK.same("walk by trying", hall.walkByTrying(0), 38);
        CHECK.same("walk of the other", hall.walk(1), 32);
    }

    private static void sixtyLines() {
        Hall hall = Check.hallWith("A");
        hall.receive(0, 30, 20, 0);
        hall.receive(0, 30, 20, 39);
        for (int bin = 1; bin < 30; bin++) {
            hall.move(0, 0, bin, 1);
        }
        for (int bin = 10; bin < 39; bin++) {
            hall.move(1, 39, bin, 1);
        }
        hall.promise(0, 60, 20, false);
        CHECK.same("sixty lines", hall.pickLines(0), 60);
        CHECK.same("the last bin", hall.pickBin(0, 59), 30);
        CHECK.same("the last quantity", hall.pickQuantity(0, 59), 1);
        CHECK.same("sixty picked", hall.pick(0), 60);
        CHECK.same("sixty lines still", hall.pickLines(0), 60);
        CHECK.same("nothing left", hall.onHand(0), 0);
        CHECK.same("walk", hall.walk(0), 68);
        CHECK.same("walk by trying", hall.walkByTrying(0), 68);
    }

    private static void wrongLines() {
        Hall hall = Check.hallWith("A");
        hall.receive(0, 9, 20, 33);
        hall.promise(0, 5, 5, false);
        hall.promise(0, 4, 5, false);
        hall.pick(1);
        for (int p = 0; p < 2; p++) {
            int promise = p;
            for (int wrong : new int[] {-1, 1, 60, Integer.MAX_VALUE, Integer.MIN_VALUE}) {
                CHECK.refuses("pickBin", hall, NO_ELEMENT, () -> hall.pickBin(promise, wrong));
                CHECK.refuses("pickLot", hall, NO_ELEMENT, () -> hall.pickLot(promise, wrong));
                CHECK.refuses("pickQuantity", hall, NO_ELEMENT, () -> hall.pickQuantity(promise, wrong));
            }
        }
        for (int wrong : new int[] {-1, 2, 20, Integer.MAX_VALUE, Integer.MIN_VALUE}) {
            CHECK.refuses("pickLines", hall, INDEX, () -> hall.pickLines(wrong));
            CHECK.refuses("pickBin", hall, INDEX, () -> hall.pickBin(wrong, -1));
            CHECK.refuses("pickLot", hall, INDEX, () -> hall.pickLot(wrong, -1));
            CHECK.refuses("pickQuantity", hall, INDEX, () -> hall.pickQuantity(wrong, -1));
            CHECK.refuses("walk", hall, INDEX, () -> hall.walk(wrong));
            CHECK.refuses("walkByTrying", hall, INDEX, () -> hall.walkByTrying(wrong));
        }
    }

    private static void endedPromises() {
        Hall hall = Check.hallWith("A");
        hall.receive(0, 9, 20, 33);
        hall.promise(0, 1, 5, false);
        hall.promise(0, 1, 0, false);
        hall.promise(0, 1, 5, false);
        hall.cancel(0);
        hall.pass(1);
        hall.count(33, 0, 0);
        CHECK.same("one of each", "" + hall.status(0) + hall.status(1) + hall.status(2), "clb");
        for (int p = 0; p < 3; p++) {
            int promise = p;
            CHECK.refuses("pickLines", hall, STATE, () -> hall.pickLines(promise));
            CHECK.refuses("pickBin", hall, STATE, () -> hall.pickBin(promise, -1));
            CHECK.refuses("pickLot", hall, STATE, () -> hall.pickLot(promise, -1));
            CHECK.refuses("pickQuantity", hall, STATE, () -> hall.pickQuantity(promise, -1));
            CHECK.refuses("walk", hall, STATE, () -> hall.walk(promise));
            CHECK.refuses("walkByTrying", hall, STATE, () -> hall.walkByTrying(promise));
        }
    }

    private static void walk(int due, int... bins) {
        Hall hall = Check.hallWith("A");
        hall.receive(0, bins.length, 20, bins[0]);
        for (int i = 1; i < bins.length; i++) {
            hall.move(0, bins[0], bins[i], 1);
        }
        hall.promise(0, bins.length, 5, false);
        CHECK.same("lines", hall.pickLines(0), bins.length);
        CHECK.same("walk", hall.walk(0), due);
        CHECK.same("walkByTrying", hall.walkByTrying(0), due);
    }

    private static void walks() {
        walk(2, 0);
        walk(20, 9);
        walk(8 + 2, 10);
        walk(8 + 20, 19);
        walk(8 + 20 + 2, 10, 9);
        walk(8 + 22, 19, 9);
        walk(8 + 8 + 6, 3, 12);
        walk(24 + 2, 30);
        walk(24 + 20, 39);
        // Out along the first aisle, back along the last one, and in between from the back.
        walk(24 + 22 + 2, 9, 39, 29);
        walk(24 + 22 + 2 + 4, 9, 39, 29, 18);
        walk(24 + 22 + 20, 9, 10, 35, 39);
        // Two aisles are crossed, although nothing is picked in the second of them.
        walk(16 + 22, 9, 29);
        // A line at each end of an aisle has it walked whole, from either end.
        walk(16 + 22 + 20, 9, 10, 19, 29);
        walk(20 + 8 + 2, 0, 9, 10);
        walk(24 + 44, 0, 9, 10, 19, 20, 29, 30, 39);
    }
}
