import java.util.Random;

/** Long runs of calls on WareHall and on the model; the seeds are fixed, so that each run is the same again. */
public final class ModelTest {
    private static final int RUNS = 300;
    private static final int CALLS = 512;
    private static final Check CHECK = new Check();

    private final Random random;
    private final WareHall hall = new WareHall();
    private final Model model = new Model();
    private final String name;
    // Few bins make full ones, and many days make expired lots: each run has its own mixture.
    private final int binsUsed;
    private final int daysUsed;
    private final int wrongOneIn;
    // Few days pass, nearly all is promised and little of it is picked, so that counts break promises.
    private final boolean crowded;
    private int itemsMade = 0;
    private int promisesMade = 0;

    private ModelTest(int run) {
        name = "run " + run + ": ";
        random = new Random(run);
        binsUsed = new int[] {3, 10, 40}[run % 3];
        daysUsed = new int[] {8, 30, 99}[run / 3 % 3];
        wrongOneIn = new int[] {5, 30, 1000}[run / 9 % 3];
        crowded = run / 27 % 2 == 1;
    }

    public static void main(String[] args) {
        for (int run = 0; run < RUNS; run++) {
            new ModelTest(run).run();
        }
        CHECK.end("ModelTest");
    }

    private void run() {
        for (int call = 0; call < CALLS; call++) {
            if (call < 6 || random.nextInt(60) == 0) {
                changeItems();
            } else if (random.nextInt(3) == 0) {
                changeGoods();
            } else if (random.nextInt(3) == 0) {
                changePromises();
            } else if (random.nextInt(2) == 0) {
                askForPromises();
            } else {
                askForGoods();
            }
        }
        compareAll();
    }

    private void same(String call, Check.Call got, Check.Call due) {
        CHECK.same(name + call, Check.outcome(got), Check.outcome(due));
    }

    /** Mostly a number from 0 to the last one, now and then one beside them. */
    private int number(int end) {
        if (random.nextInt(wrongOneIn) == 0) {
            return new int[] {-1, end, end + 1, Integer.MIN_VALUE, Integer.MAX_VALUE}[random.nextInt(5)];
        }
        return random.nextInt(Math.max(end, 1));
    }

    private int from(int least, int greatest) {
        if (random.nextInt(wrongOneIn) == 0) {
            int[] edges = {least - 1, greatest + 1, least, greatest, Integer.MIN_VALUE, Integer.MAX_VALUE};
            return edges[random.nextInt(edges.length)];
        }
        return least + random.nextInt(greatest - least + 1);
    }

    private int item() {
        return number(Math.max(itemsMade, 1));
    }

    private int bin() {
        int bin = number(binsUsed);
        return binsUsed == 3 && bin >= 0 && bin < 3 ? new int[] {9, 19, 35}[bin] : bin;
    }

    private int lot() {
        return number(model.lots());
    }

    private int promise() {
        return number(promisesMade);
    }

    private int due() {
        return from(model.day(), model.day() + Math.min(60, daysUsed));
    }

    private void changeItems() {
        char category = (char) ('A' + from(0, 2));
        if (random.nextInt(2) == 0) {
            Object made = Check.outcome(() -> model.addItem(category));
            CHECK.same(name + "addItem", Check.outcome(() -> hall.addItem(category)), made);
            itemsMade += made instanceof Integer ? 1 : 0;
        }
        int item = item();
        int other = item();
        int rank = random.nextInt(2) == 0 ? from(1, 9) : 3;
        same("addSubstitute", () -> hall.addSubstitute(item, other, rank),
                () -> model.addSubstitute(item, other, rank));
    }

    private void changeGoods() {
        int lot = lot();
        int bin = bin();
        int other = bin();
        int quantity = random.nextInt(2) == 0 ? from(1, 30) : from(1, 5);
        switch (random.nextInt(6)) {
            case 0, 1 -> {
                int item = item();
                int expiry = random.nextInt(20) == 0 ? from(model.day(), model.day() + 99)
                        : from(model.day(), model.day() + daysUsed);
                same("receive", () -> hall.receive(item, quantity, expiry, bin),
                        () -> model.receive(item, quantity, expiry, bin));
            }
            case 2 -> {
                int from = random.nextInt(4) == 0 ? bin : binOf(lot);
                same("move", () -> hall.move(lot, from, other, quantity),
                        () -> model.move(lot, from, other, quantity));
            }
            case 3 -> same("dispose", () -> hall.dispose(lot), () -> model.dispose(lot));
            case 4 -> {
                int counted = random.nextInt(4) == 0 ? bin : binOf(lot);
                int found = found(lot, counted);
                same("count", () -> hall.count(counted, lot, found), () -> model.count(counted, lot, found));
            }
            default -> {
                int days = random.nextInt(4) > 0 ? 1 : from(1, Math.min(30, daysUsed));
                if (crowded && random.nextInt(8) > 0) {
                    return;
                }
                same("pass", () -> hall.pass(days), () -> model.pass(days));
            }
        }
    }

    private int found(int lot, int bin) {
        if (lot < 0 || lot >= model.lots() || bin < 0 || bin >= 40) {
            return from(0, 30);
        }
        int before = model.stock(lot, bin);
        return random.nextInt(3) == 0 ? before : crowded ? from(0, Math.max(before, 1)) : from(0, 30);
    }

    /** A bin in which the lot has units, if there is one. */
    private int binOf(int lot) {
        int start = random.nextInt(40);
        for (int step = 0; step < 40; step++) {
            int bin = (start + step) % 40;
            if (lot >= 0 && lot < model.lots() && model.stock(lot, bin) > 0) {
                return bin;
            }
        }
        return bin();
    }

    private void changePromises() {
        int promise = promise();
        switch (random.nextInt(5)) {
            case 0, 1, 2 -> {
                int item = item();
                int quantity = random.nextInt(3) == 0 ? from(1, 60) : from(1, crowded ? 20 : 8);
                int due = due();
                boolean substitutes = random.nextBoolean();
                if (random.nextInt(3) == 0 || promisesMade < 4 || crowded) {
                    Object made = Check.outcome(() -> model.promise(item, quantity, due, substitutes));
                    CHECK.same(name + "promise",
                            Check.outcome(() -> hall.promise(item, quantity, due, substitutes)), made);
                    promisesMade += made instanceof Integer ? 1 : 0;
                }
            }
            case 3 -> {
                if (random.nextInt(4) == 0) {
                    same("cancel", () -> hall.cancel(promise), () -> model.cancel(promise));
                }
            }
            default -> {
                if (!crowded || random.nextInt(6) == 0) {
                    same("pick", () -> hall.pick(promise), () -> model.pick(promise));
                }
            }
        }
    }

    private void askForPromises() {
        int promise = promise();
        int item = item();
        int due = due();
        int line = number(4);
        same("status", () -> hall.status(promise), () -> model.status(promise));
        same("quantity", () -> hall.quantity(promise, item), () -> model.quantity(promise, item));
        same("available", () -> hall.available(item, due), () -> model.available(item, due));
        same("availableByTrying", () -> hall.availableByTrying(item, due), () -> model.availableByTrying(item, due));
        same("pickLines", () -> hall.pickLines(promise), () -> model.pickLines(promise));
        same("pickBin", () -> hall.pickBin(promise, line), () -> model.pickBin(promise, line));
        same("pickLot", () -> hall.pickLot(promise, line), () -> model.pickLot(promise, line));
        same("pickQuantity", () -> hall.pickQuantity(promise, line), () -> model.pickQuantity(promise, line));
        same("walk", () -> hall.walk(promise), () -> model.walk(promise));
        same("walkByTrying", () -> hall.walkByTrying(promise), () -> model.walk(promise));
        same("served", hall::served, model::served);
    }

    private void askForGoods() {
        int lot = lot();
        int bin = bin();
        int item = item();
        int entry = number(model.entries());
        int due = due();
        int day = from(0, model.day());
        same("day", hall::day, model::day);
        same("countsDue", hall::countsDue, model::countsDue);
        same("nextCount", hall::nextCount, model::nextCount);
        same("countDay", () -> hall.countDay(bin), () -> model.countDay(bin));
        same("stock", () -> hall.stock(lot, bin), () -> model.stock(lot, bin));
        same("stockByJournal", () -> hall.stockByJournal(lot, bin), () -> model.stock(lot, bin));
        same("load", () -> hall.load(bin), () -> model.load(bin));
        same("lots", hall::lots, model::lots);
        same("nextLot", () -> hall.nextLot(item, due), () -> model.nextLot(item, due));
        same("onHand", () -> hall.onHand(item), () -> model.onHand(item));
        same("expired", () -> hall.expired(item), () -> model.expired(item));
        same("onHandOn", () -> hall.onHandOn(item, day), () -> model.onHandOn(item, day));
        compareEntry(entry);
    }

    private void compareEntry(int entry) {
        same("entries", hall::entries, model::entries);
        same("entryKind", () -> hall.entryKind(entry), () -> model.entryKind(entry));
        same("entryLot", () -> hall.entryLot(entry), () -> model.entryLot(entry));
        same("entryFrom", () -> hall.entryFrom(entry), () -> model.entryFrom(entry));
        same("entryTo", () -> hall.entryTo(entry), () -> model.entryTo(entry));
        same("entryQuantity", () -> hall.entryQuantity(entry), () -> model.entryQuantity(entry));
    }

    private void compareAll() {
        for (int entry = 0; entry < model.entries(); entry++) {
            compareEntry(entry);
        }
        for (int lot = 0; lot < model.lots(); lot++) {
            for (int bin = 0; bin < 40; bin++) {
                int thisLot = lot;
                int thisBin = bin;
                same("stock", () -> hall.stock(thisLot, thisBin), () -> model.stock(thisLot, thisBin));
                same("stockByJournal", () -> hall.stockByJournal(thisLot, thisBin),
                        () -> model.stock(thisLot, thisBin));
            }
        }
        for (int promise = 0; promise < promisesMade; promise++) {
            int number = promise;
            same("status", () -> hall.status(number), () -> model.status(number));
            same("walk", () -> hall.walk(number), () -> model.walk(number));
        }
    }
}
