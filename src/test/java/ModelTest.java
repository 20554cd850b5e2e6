import java.util.Random;
import java.util.function.Function;

/**
 * Runs of as many calls as the document allows, on WareHall and on the model; the seeds are fixed, so that each run is
 * the same again.
 */
public final class ModelTest {
    private static final int RUNS = 300;
    private static final int CALLS_FOR_QUESTIONS = 40;
    private static final Check CHECK = new Check();

    private final Random random;
    private final Hall hall = new Hall();
    private final Model model = new Model();
    private final String name;
    // Few bins make full ones, and many days make expired lots: each run has its own mixture.
    private final int binsUsed;
    private final int daysUsed;
    private final int wrongOneIn;
    // Few days pass, nearly all is promised and little of it is picked, so that counts break promises.
    private final boolean crowded;
    // Questions are put to the object itself now and then; most are put to twins, which leaves more calls for it.
    private boolean askItself = false;
    private int itemsMade = 0;
    private int promisesMade = 0;

    private ModelTest(int run) {
        name = "run " + run + ": ";
        random = new Random(run);
        binsUsed = new int[] {3, 10, 40}[run % 3];
        daysUsed = new int[] {8, 30, 99}[run / 3 % 3];
        wrongOneIn = new int[] {5, 30, 1000}[run / 9 % 3];
        crowded = run / 27 % 2 == 1;
    }

    public static void main(String[] args) {
        for (int run = 0; run < RUNS; run++) {
            new ModelTest(run).run();
        }
        CHECK.end("ModelTest");
    }

    private void run() {
        makeCallsUntilLeft(Hall.CALLS / 2);
        compareAll();
        makeCallsUntilLeft(CALLS_FOR_QUESTIONS);
        compareAll();
    }

    private void makeCallsUntilLeft(int callsLeft) {
        for (int call = 0; hall.callsLeft() > callsLeft; call++) {
            if (call < 6 || random.nextInt(60) == 0) {
                changeItems();
            } else if (random.nextInt(7) < 3) {
                changeGoods();
            } else if (random.nextInt(3) < 2) {
                changePromises();
            } else {
                askItself = random.nextInt(10) == 0 && hall.callsLeft() > 2 * CALLS_FOR_QUESTIONS;
                if (random.nextInt(2) == 0) {
                    askForPromises();
                } else {
                    askForGoods();
                }
            }
        }
    }

    private void changes(String call, Function<Hall, ?> got, Check.Call due) {
        CHECK.same(name + call, Check.outcome(() -> got.apply(hall)), Check.outcome(due));
    }

    private void asks(String call, Function<Hall, ?> got, Check.Call due) {
        Object answer = askItself ? Check.outcome(() -> got.apply(hall)) : hall.ask(got);
        CHECK.same(name + call, answer, Check.outcome(due));
    }

    /** Mostly a number from 0 to the last one, now and then one beside them. */
    private int number(int end) {
        if (random.nextInt(wrongOneIn) == 0) {
            return new int[] {-1, end, end + 1, Integer.MIN_VALUE, Integer.MAX_VALUE}[random.nextInt(5)];
        }
        return random.nextInt(Math.max(end, 1));
    }

    private int from(int least, int greatest) {
        if (random.nextInt(wrongOneIn) == 0) {
            int[] edges = {least - 1, greatest + 1, least, greatest, Integer.MIN_VALUE, Integer.MAX_VALUE};
            return edges[random.nextInt(edges.length)];
        }
        return least + random.nextInt(greatest - least + 1);
    }

    private int item() {
        return number(Math.max(itemsMade, 1));
    }

    private int bin() {
        int bin = number(binsUsed);
        return binsUsed == 3 && bin >= 0 && bin < 3 ? new int[] {9, 19, 35}[bin] : bin;
    }

    private int lot() {
        return number(model.lots());
    }

    private int promise() {
        return number(promisesMade);
    }

    private int due() {
        return from(model.day(), model.day() + Math.min(60, daysUsed));
    }

    private void changeItems() {
        char category = (char) ('A' + from(0, 2));
        if (random.nextInt(2) == 0) {
            Object made = Check.outcome(() -> model.addItem(category));
            CHECK.same(name + "addItem", Check.outcome(() -> hall.addItem(category)), made);
            itemsMade += made instanceof Integer ? 1 : 0;
        }
        int item = item();
        int other = item();
        int rank = random.nextInt(2) == 0 ? from(1, 9) : 3;
        changes("addSubstitute", h -> h.addSubstitute(item, other, rank),
                () -> model.addSubstitute(item, other, rank));
    }

    private void changeGoods() {
        int lot = lot();
        int bin = bin();
        int other = bin();
        int quantity = random.nextInt(2) == 0 ? from(1, 30) : from(1, 5);
        switch (random.nextInt(6)) {
            case 0, 1 -> {
                int item = item();
                int expiry = random.nextInt(20) == 0 ? from(model.day(), model.day() + 99)
                        : from(model.day(), model.day() + daysUsed);
                changes("receive", h -> h.receive(item, quantity, expiry, bin),
                        () -> model.receive(item, quantity, expiry, bin));
            }
            case 2 -> {
                int from = random.nextInt(4) == 0 ? bin : binOf(lot);
                changes("move", h -> h.move(lot, from, other, quantity),
                        () -> model.move(lot, from, other, quantity));
            }
            case 3 -> changes("dispose", h -> h.dispose(lot), () -> model.dispose(lot));
            case 4 -> {
                int counted = random.nextInt(4) == 0 ? bin : binOf(lot);
                int found = found(lot, counted);
                changes("count", h -> h.count(counted, lot, found), () -> model.count(counted, lot, found));
            }
            default -> {
                int days = random.nextInt(4) > 0 ? 1 : from(1, Math.min(30, daysUsed));
                if (crowded && random.nextInt(8) > 0) {
                    return;
                }
                changes("pass", h -> h.pass(days), () -> model.pass(days));
            }
        }
    }

    private int found(int lot, int bin) {
        if (lot < 0 || lot >= model.lots() || bin < 0 || bin >= 40) {
            return from(0, 30);
        }
        int before = model.stock(lot, bin);
        return random.nextInt(3) == 0 ? before : crowded ? from(0, Math.max(before, 1)) : from(0, 30);
    }

    /** A bin in which the lot has units, if there is one. */
    private int binOf(int lot) {
        int start = random.nextInt(40);
        for (int step = 0; step < 40; step++) {
            int bin = (start + step) % 40;
            if (lot >= 0 && lot < model.lots() && model.stock(lot, bin) > 0) {
                return bin;
            }
        }
        return bin();
    }

    private void changePromises() {
        int promise = promise();
        switch (random.nextInt(5)) {
            case 0, 1, 2 -> {
                int item = item();
                int quantity = random.nextInt(3) == 0 ? from(1, 60) : from(1, crowded ? 20 : 8);
                int due = due();
                boolean substitutes = random.nextBoolean();
                if (random.nextInt(3) == 0 || promisesMade < 4 || crowded) {
                    Object made = Check.outcome(() -> model.promise(item, quantity, due, substitutes));
                    CHECK.same(name + "promise",
                            Check.outcome(() -> hall.promise(item, quantity, due, substitutes)), made);
                    promisesMade += made instanceof Integer ? 1 : 0;
                }
            }
            case 3 -> {
                if (random.nextInt(4) == 0) {
                    changes("cancel", h -> h.cancel(promise), () -> model.cancel(promise));
                }
            }
            default -> {
                if (!crowded || random.nextInt(6) == 0) {
                    changes("pick", h -> h.pick(promise), () -> model.pick(promise));
                }
            }
        }
    }

    private void askForPromises() {
        int promise = promise();
        int item = item();
        int due = due();
        int line = number(4);
        asks("status", h -> h.status(promise), () -> model.status(promise));
        asks("quantity", h -> h.quantity(promise, item), () -> model.quantity(promise, item));
        asks("available", h -> h.available(item, due), () -> model.available(item, due));
        asks("availableByTrying", h -> h.availableByTrying(item, due), () -> model.availableByTrying(item, due));
        asks("pickLines", h -> h.pickLines(promise), () -> model.pickLines(promise));
        asks("pickBin", h -> h.pickBin(promise, line), () -> model.pickBin(promise, line));
        asks("pickLot", h -> h.pickLot(promise, line), () -> model.pickLot(promise, line));
        asks("pickQuantity", h -> h.pickQuantity(promise, line), () -> model.pickQuantity(promise, line));
        asks("walk", h -> h.walk(promise), () -> model.walk(promise));
        asks("walkByTrying", h -> h.walkByTrying(promise), () -> model.walk(promise));
        asks("served", Hall::served, model::served);
    }

    private void askForGoods() {
        int lot = lot();
        int bin = bin();
        int item = item();
        int entry = number(model.entries());
        int due = due();
        int day = from(0, model.day());
        asks("day", Hall::day, model::day);
        asks("countsDue", Hall::countsDue, model::countsDue);
        asks("nextCount", Hall::nextCount, model::nextCount);
        asks("countDay", h -> h.countDay(bin), () -> model.countDay(bin));
        asks("stock", h -> h.stock(lot, bin), () -> model.stock(lot, bin));
        asks("stockByJournal", h -> h.stockByJournal(lot, bin), () -> model.stock(lot, bin));
        asks("load", h -> h.load(bin), () -> model.load(bin));
        asks("lots", Hall::lots, model::lots);
        asks("nextLot", h -> h.nextLot(item, due), () -> model.nextLot(item, due));
        asks("onHand", h -> h.onHand(item), () -> model.onHand(item));
        asks("expired", h -> h.expired(item), () -> model.expired(item));
        asks("onHandOn", h -> h.onHandOn(item, day), () -> model.onHandOn(item, day));
        compareEntry(entry);
    }

    private void compareEntry(int entry) {
        asks("entries", Hall::entries, model::entries);
        asks("entryKind", h -> h.entryKind(entry), () -> model.entryKind(entry));
        asks("entryLot", h -> h.entryLot(entry), () -> model.entryLot(entry));
        asks("entryFrom", h -> h.entryFrom(entry), () -> model.entryFrom(entry));
        asks("entryTo", h -> h.entryTo(entry), () -> model.entryTo(entry));
        asks("entryQuantity", h -> h.entryQuantity(entry), () -> model.entryQuantity(entry));
    }

    private void compareAll() {
        askItself = false;
        for (int entry = 0; entry < model.entries(); entry++) {
            compareEntry(entry);
        }
        for (int lot = 0; lot < model.lots(); lot++) {
            for (int bin = 0; bin < 40; bin++) {
                int thisLot = lot;
                int thisBin = bin;
                asks("stock", h -> h.stock(thisLot, thisBin), () -> model.stock(thisLot, thisBin));
                asks("stockByJournal", h -> h.stockByJournal(thisLot, thisBin),
                        () -> model.stock(thisLot, thisBin));
            }
        }
        for (int promise = 0; promise < promisesMade; promise++) {
            int number = promise;
            asks("status", h -> h.status(number), () -> model.status(number));
            asks("walk", h -> h.walk(number), () -> model.walk(number));
        }
    }
}
