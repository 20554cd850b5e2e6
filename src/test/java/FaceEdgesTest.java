import java.io.IOException;
import java.nio.file.Files;
import java.nio.file.Path;
import java.util.ArrayList;
import java.util.LinkedHashMap;
import java.util.List;
import java.util.Map;
import java.util.regex.Matcher;
import java.util.regex.Pattern;
import java.util.stream.Stream;

/** What the document says of the class as a whole, sentence by sentence: ahead of its terms, and at its end. */
public final class FaceEdgesTest extends Edges {
    private static final Path CLASS = Path.of("src/main/java/WareHall.java");
    private static final Path TESTS = Path.of("src/test/java");
    private static final Pattern SECTION = Pattern.compile(" {4}// (.*)");
    private static final Pattern METHOD = Pattern.compile(" {4}public \\w+ (\\w+)\\(.*");
    private static final Pattern CODE = Pattern.compile("`(\\w+)`");

    public static void main(String[] args) {
        theFaceIsThatOfTheDocument();
        sentences().run(CHECK, "FaceEdgesTest");
    }

    static Sentences sentences() {
        Sentences all = new Sentences();
        all.at("What it is")
                .say("A warehouse whose goods come in lots with a day of expiry.", FaceEdgesTest::lotsWithADay)
                .at("Terms")
                .say("Goods are received into bins, moved, promised for a day, picked along the shortest walk, counted "
                        + "in cycles and disposed of.", FaceEdgesTest::allThatIsDone);
        for (String sentence : Doc.sentences("Terms")) {
            if (sentence.startsWith("Ahead of the calls ")) {
                all.say(sentence, () -> section(sentence));
            }
        }
        String nothing = "Nothing is promised beyond the answers and state changes described above, and nothing about "
                + "an object after its 512th call.";
        return all.at("Not promised")
                .say(nothing, FaceEdgesTest::questionsChangeNothing)
                .say(nothing, FaceEdgesTest::nothingAfterTheLastCall)
                .say(nothing, FaceEdgesTest::testsCountTheirCalls);
    }

    // The source

    private static List<String> lines(Path file) {
        try {
            return Files.readAllLines(file);
        } catch (IOException e) {
            throw new IllegalStateException(e);
        }
    }

    /** Each head of the document stands in the source, with the names of its arguments, and no other does. */
    private static void theFaceIsThatOfTheDocument() {
        String source = String.join(" ", lines(CLASS)).replaceAll("\\s+", " ");
        List<String> face = Doc.face();
        for (String head : face) {
            same("the source has " + head, source.contains(" " + head + " { "), true);
        }
        if (Doc.isThere()) {
            same("the heads of the face", face.size(), 40);
            same("public members", source.split(" public ", -1).length - 1, face.size() + 1);
        }
        for (int promise = 1; promise <= face.size(); promise++) {
            same("the head of the promise " + promise, "public " + Doc.head("Promise " + promise),
                    face.get(promise - 1));
        }
    }

    /** The names of the public methods, behind the comment that is ahead of them. */
    private static Map<String, List<String>> sections() {
        Map<String, List<String>> sections = new LinkedHashMap<>();
        String section = "";
        for (String line : lines(CLASS)) {
            Matcher comment = SECTION.matcher(line);
            Matcher method = METHOD.matcher(line);
            if (comment.matches()) {
                section = comment.group(1).toLowerCase();
            }
            if (method.matches()) {
                sections.computeIfAbsent(section, name -> new ArrayList<>()).add(method.group(1));
            }
        }
        return sections;
    }

    private static void section(String sentence) {
        List<String> due = new ArrayList<>();
        Matcher name = CODE.matcher(sentence);
        while (name.find()) {
            due.add(name.group(1));
        }
        String section = sentence.replaceAll(".*says: (.*)\\.", "$1");
        same("the calls behind the comment " + section, sections().get(section), due);
    }

    // What the class is for

    private static void lotsWithADay() {
        Hall hall = Check.hallWith("A");
        same("goods come in a lot", hall.receive(0, 5, 3, 0), 0);
        same("the same goods come in another lot", hall.receive(0, 5, 4, 0), 1);
        same("both are goods of the item", hall.onHand(0), 10);
        same("the units of the one", hall.stock(0, 0), 5);
        same("the units of the other", hall.stock(1, 0), 5);
        hall.pass(4);
        same("the one has expired", hall.expired(0), 5);
        same("the other has not", hall.onHand(0), 5);
    }

    private static void allThatIsDone() {
        Hall hall = Check.hallWith("A");
        same("received", hall.receive(0, 20, 30, 4), 0);
        same("into the bin", hall.load(4), 20);
        same("moved", hall.move(0, 4, 19, 12), 12);
        same("promised for a day", hall.promise(0, 10, 6, false), 0);
        same("the shortest walk", hall.walk(0), 30);
        same("picked", hall.pick(0), 2);
        hall.pass(5);
        same("counts are due", hall.countsDue(), 1);
        same("the next count", hall.nextCount(), 19);
        same("counted", hall.count(19, 0, 9), 0);
        same("the next cycle", hall.countDay(19), 10);
        hall.pass(26);
        same("disposed of", hall.dispose(0), 9);
        StringBuilder kinds = new StringBuilder();
        for (int entry = 0; entry < 6; entry++) {
            kinds.append(hall.entryKind(entry));
        }
        same("the kinds of the entries", kinds.toString(), "rmppcd");
        same("entries", hall.entries(), 6);
    }

    // What is not promised

    private static void leavesAll(Scene scene, HallCall question) {
        Hall hall = scene.make();
        Hall twin = scene.make();
        Check.outcome(() -> question.on(hall));
        same("what stands afterwards", Snapshot.of(hall), Snapshot.of(twin));
        same("what follows afterwards", Aftermath.of(hall), Aftermath.of(twin));
    }

    private static List<HallCall> questions() {
        return List.of(hall -> hall.status(0), hall -> hall.quantity(0, 0), hall -> hall.available(0, hall.day()),
                hall -> hall.availableByTrying(0, hall.day()), hall -> hall.pickLines(0), hall -> hall.pickLines(1),
                hall -> hall.pickBin(0, 0), hall -> hall.pickLot(0, 0), hall -> hall.pickQuantity(0, 0),
                hall -> hall.pickBin(1, 0), hall -> hall.walk(0), hall -> hall.walkByTrying(0),
                hall -> hall.walkByTrying(1), Hall::day, Hall::countsDue, Hall::nextCount, hall -> hall.countDay(3),
                hall -> hall.stock(0, 3), hall -> hall.stockByJournal(0, 3), hall -> hall.load(3), Hall::lots,
                hall -> hall.nextLot(0, 0), hall -> hall.onHand(0), hall -> hall.expired(0), Hall::entries,
                hall -> hall.entryKind(0), hall -> hall.entryLot(0), hall -> hall.entryFrom(0),
                hall -> hall.entryTo(0), hall -> hall.entryQuantity(0), hall -> hall.onHandOn(0, 0), Hall::served);
    }

    private static void questionsChangeNothing() {
        for (HallCall question : questions()) {
            leavesAll(Edges::allStatuses, question);
            leavesAll(Edges::allFull, question);
            leavesAll(Hall::new, question);
        }
    }

    private static void nothingAfterTheLastCall() {
        Hall hall = new Hall();
        for (int call = 1; call <= 512; call++) {
            same("calls left", hall.callsLeft(), 513 - call);
            hall.day();
        }
        same("calls left", hall.callsLeft(), 0);
        same("calls that a twin has left", hall.twin().callsLeft(), 0);
        boolean refused = false;
        try {
            hall.day();
        } catch (AssertionError e) {
            refused = true;
        }
        same("a test that makes one call more fails", refused, true);
    }

    /** No test makes an object of its own but by way of Hall, which counts the calls. */
    private static void testsCountTheirCalls() {
        List<String> makers = new ArrayList<>();
        try (Stream<Path> files = Files.list(TESTS)) {
            for (Path file : files.sorted().toList()) {
                String text = String.join("\n", lines(file));
                if (text.contains("new " + "WareHall(") || text.contains("WareHall" + "::new")) {
                    makers.add(file.getFileName().toString());
                }
            }
        } catch (IOException e) {
            throw new IllegalStateException(e);
        }
        same("tests that make an object of WareHall", makers, List.of("Hall.java"));
    }
}
