/** Promises 1 to 3. */
public final class ItemsTest {
    private static final Check CHECK = new Check();
    private static final Class<IndexOutOfBoundsException> INDEX = IndexOutOfBoundsException.class;
    private static final Class<IllegalArgumentException> ARGUMENT = IllegalArgumentException.class;
    private static final Class<IllegalStateException> STATE = IllegalStateException.class;
    private static final Class<UnsupportedOperationException> UNSUPPORTED = UnsupportedOperationException.class;

    public static void main(String[] args) {
        newObject();
        categories();
        sixItems();
        substitutes();
        wrongSubstitutes();
        CHECK.end("ItemsTest");
    }

    private static void newObject() {
        Hall hall = new Hall();
        CHECK.same("day", hall.day(), 0);
        CHECK.same("lots", hall.lots(), 0);
        CHECK.same("entries", hall.entries(), 0);
        CHECK.same("countsDue", hall.countsDue(), 0);
        for (int bin = 0; bin < 40; bin++) {
            CHECK.same("load", hall.load(bin), 0);
        }
        CHECK.refuses("onHand without items", hall, INDEX, () -> hall.onHand(0));
        CHECK.refuses("status without promises", hall, INDEX, () -> hall.status(0));
        Hall other = new Hall();
        hall.addItem('A');
        CHECK.refuses("onHand of another object", other, INDEX, () -> other.onHand(0));
    }

    private static void categories() {
        Hall hall = new Hall();
        CHECK.same("A", hall.addItem('A'), 0);
        CHECK.same("B", hall.addItem('B'), 1);
        CHECK.same("C", hall.addItem('C'), 2);
        for (char wrong : new char[] {'@', 'D', 'a', 'b', 'c', (char) 0, (char) 65535}) {
            CHECK.refuses("category " + (int) wrong, hall, ARGUMENT, () -> hall.addItem(wrong));
        }
        CHECK.same("after the wrong ones", hall.addItem('A'), 3);
    }

    private static void sixItems() {
        Hall hall = new Hall();
        for (int item = 0; item < 6; item++) {
            CHECK.same("addItem", hall.addItem('C'), item);
        }
        CHECK.refuses("a seventh item", hall, STATE, () -> hall.addItem('C'));
        CHECK.refuses("a seventh item of no category", hall, ARGUMENT, () -> hall.addItem('D'));
    }

    private static void substitutes() {
        Hall hall = new Hall();
        for (int item = 0; item < 6; item++) {
            hall.addItem('A');
        }
        CHECK.same("first", hall.addSubstitute(0, 5, 9), 1);
        CHECK.same("same rank", hall.addSubstitute(0, 1, 9), 2);
        CHECK.same("rank 1", hall.addSubstitute(0, 2, 1), 3);
        CHECK.same("fourth", hall.addSubstitute(0, 3, 2), 4);
        CHECK.same("fifth", hall.addSubstitute(0, 4, 2), 5);
        CHECK.same("the other way round", hall.addSubstitute(5, 0, 9), 1);
    }

    private static void wrongSubstitutes() {
        Hall hall = new Hall();
        hall.addItem('A');
        hall.addItem('B');
        hall.addSubstitute(0, 1, 5);
        CHECK.refuses("no item -1", hall, INDEX, () -> hall.addSubstitute(-1, 1, 0));
        CHECK.refuses("no item 2", hall, INDEX, () -> hall.addSubstitute(2, 1, 0));
        CHECK.refuses("no other -1", hall, INDEX, () -> hall.addSubstitute(0, -1, 10));
        CHECK.refuses("no other 2", hall, INDEX, () -> hall.addSubstitute(0, 2, 10));
        CHECK.refuses("both 2", hall, INDEX, () -> hall.addSubstitute(2, 2, 3));
        CHECK.refuses("rank 0", hall, ARGUMENT, () -> hall.addSubstitute(1, 0, 0));
        CHECK.refuses("rank 10", hall, ARGUMENT, () -> hall.addSubstitute(1, 0, 10));
        CHECK.refuses("rank 0 of the same", hall, ARGUMENT, () -> hall.addSubstitute(1, 1, 0));
        CHECK.refuses("rank 10 of a substitute", hall, ARGUMENT, () -> hall.addSubstitute(0, 1, 10));
        CHECK.refuses("both the same", hall, UNSUPPORTED, () -> hall.addSubstitute(1, 1, 3));
        CHECK.refuses("a substitute already", hall, STATE, () -> hall.addSubstitute(0, 1, 3));
        CHECK.same("none was added", hall.addSubstitute(1, 0, 1), 1);
    }
}
