import java.util.Random;

/** "An object is used for at most 512 calls": up to the 512th all answers are due; no later call throws. */
public final class BoundsCallsTest {
    private static final String[] QUESTIONS = {"fault", "rule 2", "hedge 8", "gardener 2 3", "guest 0 1", "way 0 15", "turn 15", "runs 60 0",
        "runs 60 2", "ahead 0 60 1", "stands 0 60", "out 0", "again", "cut 60 0", "door 60 0", "food 0", "sack 60 0", "swap 60 0", "kind 0 60 0",
        "luck 3 0 8 0", "luck 3 0 8 1", "mean 3 8 0", "kinds 0", "tastes 0", "ask 0 0", "drift 7 60 0", "torn", "count 4"};
    private static final String[] NAMES = {"feed 1", "end 1", "text 0", "fault 0", "rule 1", "hedge 1", "gardener 2", "guest 2", "way 2", "turn 1",
        "grow 2", "alter 3", "hire 3", "leave 1", "come 2", "move 2", "bread 2", "open 1", "days 1", "runs 2", "ahead 3", "stands 2", "out 1",
        "again 0", "cut 2", "door 2", "food 1", "sack 2", "swap 2", "kind 3", "luck 4", "mean 3", "see 3", "forget 1", "kinds 1", "tastes 1",
        "ask 2", "drift 3", "keep 1", "back 1", "sheet 3", "lay 3", "read 4", "torn 0", "count 1"};
    private static final int[] EDGES = {Integer.MIN_VALUE, Integer.MIN_VALUE + 1, -65536, -21, -2, -1, 0, 1, 2, 3, 4, 5, 6, 7, 8, 9, 10, 11, 15,
        16, 20, 21, 23, 24, 30, 31, 39, 40, 41, 59, 60, 61, 127, 128, 159, 160, 161, 999, 1000, 65536, Integer.MAX_VALUE - 1, Integer.MAX_VALUE};

    private static void terms1AQuestionAskedToThe512thCall() {
        for (String question : QUESTIONS) {
            Run run = Run.garden("512 calls, " + question);
            long first = run.ask(question);
            while (run.left() > 0) {
                run.due(first, question);
            }
        }
    }

    private static void terms1AChangeMadeToThe512thCall() {
        Run grow = Run.garden("512 calls, grow").does("grow 0 1");
        for (int v = 0; grow.left() > 0; v = 1 - v) {
            grow.due(1 - v, "grow 0 " + v);
        }
        Run days = Run.garden("512 calls, days");
        for (int day = 5; days.left() > 1; day++) {
            days.does("days 1").due(day, "rule 2");
        }
        Run tape = new Run("512 calls, feed");
        for (int n = 1; tape.left() > 0; n++) {
            tape.due(n <= 160 ? n : Run.FULL, "feed 32");
        }
        Run texts = new Run("512 calls, text");
        while (texts.left() > 8) {
            texts.fed("gate 9;").due(1, "text");
        }
        Run images = Run.garden("512 calls, keep and back");
        while (images.left() > 1) {
            images.due(1, "keep 0").due(4, "back 0");
        }
        Run seen = Run.garden("512 calls, see and forget");
        while (seen.left() > 1) {
            seen.due(3, "see 20 23 1").due(3, "forget 2");
        }
        Run sheets = Run.garden("512 calls, sheet, lay, read");
        while (sheets.left() > 3) {
            sheets.due(1, "sheet 3 2 40").due(1, "lay 3 39 1").due(20, "read 3 2 0 20").due(0, "torn");
        }
    }

    /** What later calls answer is free, but none may throw or fail to end. */
    private static void terms1NoCallThrowsWhateverItIsGiven() {
        for (int seed = 1; seed <= 40; seed++) {
            Random random = new Random(seed);
            MownMaze maze = new MownMaze();
            for (int i = 0; i < 4 * Run.PROMISED_CALLS; i++) {
                String[] name = NAMES[random.nextInt(NAMES.length)].split(" ");
                StringBuilder call = new StringBuilder(name[0]);
                for (int n = Integer.parseInt(name[1]); n > 0; n--) {
                    // The small ones more often, so that much is there for the others to meet.
                    int edge = random.nextInt(3) == 0 ? random.nextInt(EDGES.length) : 6 + random.nextInt(4);
                    call.append(' ').append(EDGES[edge]);
                }
                Run.answer(maze, call.toString());
            }
        }
    }

    public static void main(String[] args) throws ReflectiveOperationException {
        Run.all(BoundsCallsTest.class);
    }
}
