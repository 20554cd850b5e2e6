/** Promises 1 to 3, sentence by sentence. */
public final class ItemsEdgesTest extends Edges {
    private static final String FIRST_LISTED = "If several exceptions apply, the one that is listed first is thrown.";

    public static void main(String[] args) {
        sentences().run(CHECK, "ItemsEdgesTest");
    }

    static Sentences sentences() {
        return new Sentences()
                .at("Promise 1")
                .say("Creates a warehouse without items, with empty bins.", ItemsEdgesTest::promise1WithoutItems)
                .say("Creates a warehouse without items, with empty bins.", ItemsEdgesTest::promise1EmptyBins)
                .at("Promise 2")
                .say("Adds an item without substitutes.", ItemsEdgesTest::promise2WithoutSubstitutes)
                .say("Returns the number of the item.", ItemsEdgesTest::promise2Number)
                .say("Throws `IllegalArgumentException` if the category is not 'A', 'B' or 'C'",
                        ItemsEdgesTest::promise2Category)
                .say("Throws `IllegalStateException` if there are 6 items", ItemsEdgesTest::promise2SixItems)
                .at("Promise 3")
                .say("Makes an item a substitute of another one.", ItemsEdgesTest::promise3OneWay)
                .say("Returns the number of substitutes of the item.", ItemsEdgesTest::promise3Number)
                .say("Throws `IndexOutOfBoundsException` if there is no such item, for either",
                        ItemsEdgesTest::promise3NoSuchItem)
                .say("Throws `IllegalArgumentException` if the rank is not between 1 and 9",
                        ItemsEdgesTest::promise3Rank)
                .say("Throws `UnsupportedOperationException` if both are the same", ItemsEdgesTest::promise3BothTheSame)
                .say("Throws `IllegalStateException` if it is a substitute of the item already",
                        ItemsEdgesTest::promise3Already)
                .at("Terms, Exceptions")
                .say(FIRST_LISTED, ItemsEdgesTest::promise2FirstListed)
                .say(FIRST_LISTED, ItemsEdgesTest::promise3FirstListed);
    }

    private static Hall items(int number) {
        return Check.hallWith("ABCABC".substring(0, number));
    }

    private static void promise1WithoutItems() {
        for (int item : new int[] {-1, 0, 1, 5, 6}) {
            refuses(Hall::new, INDEX, "onHand(" + item + ")", hall -> hall.onHand(item));
            refuses(Hall::new, INDEX, "addSubstitute(" + item + ", 0, 1)", hall -> hall.addSubstitute(item, 0, 1));
        }
        accepts(Hall::new, 0, "the first addItem", hall -> hall.addItem('A'));
        accepts(Hall::new, 0, "lots", Hall::lots);
        accepts(Hall::new, 0, "entries", Hall::entries);
        refuses(Hall::new, INDEX, "status(0)", hall -> hall.status(0));
        Hall one = new Hall();
        Hall other = new Hall();
        one.addItem('A');
        one.receive(0, 1, 0, 0);
        same("the load in another object", other.load(0), 0);
        same("onHand of another object", Check.outcome(() -> other.onHand(0)), "IndexOutOfBoundsException");
    }

    private static void promise1EmptyBins() {
        Hall hall = new Hall();
        for (int b = 0; b < 40; b++) {
            int bin = b;
            same("load(" + bin + ")", hall.load(bin), 0);
            same("countDay(" + bin + ")", Check.outcome(() -> hall.countDay(bin)), "NoSuchElementException");
        }
        same("countsDue", hall.countsDue(), 0);
        same("nextCount", Check.outcome(hall::nextCount), "NoSuchElementException");
    }

    private static void promise2WithoutSubstitutes() {
        Hall hall = items(6);
        for (int item = 0; item < 6; item++) {
            same("the first substitute of " + item, hall.addSubstitute(item, (item + 1) % 6, 9), 1);
        }
        Hall without = items(2);
        without.receive(0, 5, 9, 0);
        same("promise of the new item", Check.outcome(() -> without.promise(1, 1, 0, true)),
                "UnsupportedOperationException");
    }

    private static void promise2Number() {
        Hall hall = new Hall();
        for (int item = 0; item < 6; item++) {
            same("addItem", hall.addItem("CABBAC".charAt(item)), item);
        }
    }

    private static void promise2Category() {
        for (int c = 0; c <= 65535; c++) {
            char category = (char) c;
            boolean right = c == 65 || c == 66 || c == 67;
            same("addItem((char) " + c + ")", Check.outcome(() -> new Hall().addItem(category)),
                    right ? (Object) 0 : "IllegalArgumentException");
        }
        Hall hall = new Hall();
        while (hall.callsLeft() > 1) {
            char wrong = (char) ('D' + hall.callsLeft());
            same("a wrong one", Check.outcome(() -> hall.addItem(wrong)), "IllegalArgumentException");
        }
        same("the first right one", hall.addItem('B'), 0);
        for (char wrong : new char[] {0, '@', 'D', 'a', 'b', 'c', 65535}) {
            refuses(() -> items(3), ARGUMENT, "addItem((char) " + (int) wrong + ")", h -> h.addItem(wrong));
        }
    }

    private static void promise2SixItems() {
        for (char category : new char[] {'A', 'B', 'C'}) {
            accepts(() -> items(5), 5, "the sixth " + category, hall -> hall.addItem(category));
            refuses(() -> items(6), STATE, "a seventh " + category, hall -> hall.addItem(category));
        }
    }

    private static void promise2FirstListed() {
        for (char wrong : new char[] {0, '@', 'D', 65535}) {
            refuses(() -> items(6), ARGUMENT, "a seventh item of no category", hall -> hall.addItem(wrong));
        }
    }

    private static void promise3OneWay() {
        Hall hall = items(2);
        hall.receive(0, 5, 9, 0);
        hall.receive(1, 5, 9, 1);
        hall.addSubstitute(0, 1, 1);
        same("one way", Check.outcome(() -> hall.promise(0, 10, 0, true)), 0);
        hall.cancel(0);
        same("not the other way", Check.outcome(() -> hall.promise(1, 6, 0, true)), "UnsupportedOperationException");
        same("the other way is free", hall.addSubstitute(1, 0, 1), 1);
        same("both ways", Check.outcome(() -> hall.promise(1, 10, 0, true)), 1);
    }

    private static void promise3Number() {
        Hall hall = items(6);
        for (int item = 0; item < 6; item++) {
            int number = 0;
            for (int other = 5; other >= 0; other--) {
                if (other != item) {
                    number++;
                    same("addSubstitute(" + item + ", " + other + ", 4)", hall.addSubstitute(item, other, 4), number);
                }
            }
        }
    }

    private static void promise3NoSuchItem() {
        for (int n = 1; n <= 6; n++) {
            int items = n;
            refuses(() -> items(items), INDEX, "item -1 of " + items, hall -> hall.addSubstitute(-1, 0, 1));
            refuses(() -> items(items), INDEX, "other -1 of " + items, hall -> hall.addSubstitute(0, -1, 1));
            refuses(() -> items(items), INDEX, "item n of " + items, hall -> hall.addSubstitute(items, 0, 1));
            refuses(() -> items(items), INDEX, "other n of " + items, hall -> hall.addSubstitute(0, items, 1));
            if (items > 1) {
                accepts(() -> items(items), 1, "item n - 1", hall -> hall.addSubstitute(items - 1, 0, 1));
                accepts(() -> items(items), 1, "other n - 1", hall -> hall.addSubstitute(0, items - 1, 1));
            }
        }
    }

    private static void promise3Rank() {
        for (int rank = 1; rank <= 9; rank++) {
            int right = rank;
            accepts(() -> items(2), 1, "rank " + rank, hall -> hall.addSubstitute(0, 1, right));
        }
        for (int wrong : new int[] {0, 10, -1, 11, Integer.MIN_VALUE, Integer.MAX_VALUE}) {
            refuses(() -> items(2), ARGUMENT, "rank " + wrong, hall -> hall.addSubstitute(0, 1, wrong));
        }
    }

    private static void promise3BothTheSame() {
        for (int i = 0; i < 6; i++) {
            int item = i;
            refuses(() -> items(6), UNSUPPORTED, "item " + item, hall -> hall.addSubstitute(item, item, 1));
            accepts(() -> items(6), 1, "the next of " + item, hall -> hall.addSubstitute(item, (item + 1) % 6, 1));
        }
    }

    /** 1 substitutes 0 by the rank 5 and 2 substitutes 0 by the rank 4; each has a unit. */
    private static Hall withSubstitutes() {
        Hall hall = items(3);
        hall.addSubstitute(0, 1, 5);
        hall.addSubstitute(0, 2, 4);
        hall.receive(1, 1, 9, 0);
        hall.receive(2, 1, 9, 0);
        return hall;
    }

    private static void promise3Already() {
        for (int rank : new int[] {1, 5, 9}) {
            refuses(ItemsEdgesTest::withSubstitutes, STATE, "again by " + rank, hall -> hall.addSubstitute(0, 1, rank));
            accepts(ItemsEdgesTest::withSubstitutes, 1, "the other way", hall -> hall.addSubstitute(1, 0, rank));
            accepts(ItemsEdgesTest::withSubstitutes, 1, "two others", hall -> hall.addSubstitute(1, 2, rank));
        }
        Hall hall = withSubstitutes();
        same("again by 1", Check.outcome(() -> hall.addSubstitute(0, 1, 1)), "IllegalStateException");
        hall.promise(0, 1, 0, true);
        same("the ranks have stayed", quantities(hall, 0, 3), "0 0 1");
    }

    private static void promise3FirstListed() {
        Scene scene = ItemsEdgesTest::withSubstitutes;
        refuses(scene, INDEX, "no item, wrong rank", hall -> hall.addSubstitute(3, 1, 0));
        refuses(scene, INDEX, "no other, wrong rank", hall -> hall.addSubstitute(0, 3, 10));
        refuses(scene, INDEX, "no item, both the same", hall -> hall.addSubstitute(3, 3, 1));
        refuses(scene, INDEX, "no item, both the same, wrong rank", hall -> hall.addSubstitute(-1, -1, 0));
        refuses(scene, ARGUMENT, "wrong rank, both the same", hall -> hall.addSubstitute(0, 0, 0));
        refuses(scene, ARGUMENT, "wrong rank, both the same", hall -> hall.addSubstitute(1, 1, 10));
        refuses(scene, ARGUMENT, "wrong rank, already", hall -> hall.addSubstitute(0, 1, 0));
        refuses(scene, ARGUMENT, "wrong rank, already", hall -> hall.addSubstitute(0, 2, 10));
    }
}
