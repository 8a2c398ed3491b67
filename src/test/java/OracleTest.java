import java.lang.reflect.Method;
import java.util.ArrayList;
import java.util.Arrays;
import java.util.List;
import java.util.Random;

/** Runs of random calls on fresh objects: MownMaze and Oracle have to answer alike. */
public final class OracleTest {
    /** A call's name, how often it comes, then the least and the greatest of each of its numbers. */
    private static final String[] CALLS = {
        "feed 6 0 127", "end 2 0 9", "text 1", "fault 2", "rule 6 0 7", "hedge 3 0 23", "gardener 4 0 3 0 3",
        "guest 4 0 3 0 2", "way 3 0 15 0 15", "turn 3 0 15", "grow 8 0 23 0 1", "alter 5 0 3 0 2 0 9",
        "alter 2 0 3 1 1 0 23", "hire 5 0 3 0 23 0 9", "leave 1 0 4", "come 5 0 15 0 60", "come 3 0 15 0 5",
        "move 3 0 3 0 15", "bread 3 0 3 0 60", "open 3 0 15", "days 3 0 30", "days 5 0 3", "runs 4 0 60 0 3",
        "ahead 4 0 3 0 60 0 2", "stands 3 0 23 0 60", "out 3 0 3", "again 4", "cut 3 0 60 0 1", "cut 3 0 8 0 1",
        "door 3 0 60 0 1", "door 3 0 8 0 1", "food 3 0 3", "sack 3 0 60 0 1", "sack 3 0 8 0 1", "swap 3 0 60 0 1",
        "swap 3 0 8 0 1", "kind 3 0 3 0 60 0 1", "kind 3 0 3 0 8 0 1", "luck 3 0 10 0 3 0 8 0 1",
        "mean 3 0 10 0 8 0 1", "see 3 0 20 0 23 0 1", "forget 2 0 6", "kinds 3 0 3", "tastes 3 0 3", "ask 1 0 3 0 1",
        "drift 4 -9999 9999 1 60 0 1", "keep 2 0 1", "back 2 0 1", "sheet 3 0 3 0 2 0 40", "lay 4 0 3 0 39 0 23",
        "lay 4 0 3 0 9 0 1", "read 8 0 3 0 2 0 39 0 20", "read 8 0 1 0 2 0 8 0 4", "torn 3", "count 4 0 5"};
    private static final int[] FAR = {Integer.MIN_VALUE, -25, -2, -1, 4, 24, 61, 1000, Integer.MAX_VALUE};
    private static final String[] WORDS = {"plain 3 5;", "spite 0 1;", "close 20 7;", "wide 14 9;", "guest 15 20;",
        "guest 5 9;", "guest 0 0;", "hedge 0 4 7;", "hedge;", "hedge 23;", "gate 3;", "gate 15;", "plain", "guest",
        "hedge", "gate", "wide", "gates", "x", "0", "9", "23", "24", "60", "61", "007", ";", " ", "  ", "@", "Z", "{"};
    private static final Check CHECK = new Check();

    private final Random random;
    private final MownMaze maze = new MownMaze();
    private final Oracle oracle = new Oracle();
    private final List<String> log = new ArrayList<>();
    private int calls = 0;

    private OracleTest(long seed) {
        random = new Random(seed);
    }

    private boolean call(String name, int... numbers) {
        Class<?>[] types = new Class<?>[numbers.length];
        Object[] given = new Object[numbers.length];
        for (int i = 0; i < numbers.length; i++) {
            types[i] = int.class;
            given[i] = numbers[i];
        }
        String told = name + Arrays.toString(numbers);
        log.add(told);
        calls++;
        try {
            Method of = MownMaze.class.getMethod(name, types);
            Method due = Oracle.class.getDeclaredMethod(name, types);
            long got = ((Number) of.invoke(maze, given)).longValue();
            long want = ((Number) due.invoke(oracle, given)).longValue();
            CHECK.due(told, got, want);
            return got == want;
        } catch (ReflectiveOperationException e) {
            CHECK.due(told + " threw " + e + " by " + e.getCause(), 1, 0);
            return false;
        }
    }

    private int number(int least, int most) {
        int odds = random.nextInt(30);
        if (odds == 0) {
            return FAR[random.nextInt(FAR.length)];
        }
        if (odds == 1) {
            return random.nextBoolean() ? least - 1 : most + 1;
        }
        return least + random.nextInt(most - least + 1);
    }

    private boolean anyCall(int weights) {
        int at = random.nextInt(weights);
        for (String row : CALLS) {
            String[] parts = row.split(" ");
            at -= Integer.parseInt(parts[1]);
            if (at < 0) {
                int[] numbers = new int[(parts.length - 2) / 2];
                for (int i = 0; i < numbers.length; i++) {
                    numbers[i] = number(Integer.parseInt(parts[2 + 2 * i]), Integer.parseInt(parts[3 + 2 * i]));
                }
                return call(parts[0], numbers);
            }
        }
        return true;
    }

    private boolean feed(String text) {
        boolean alike = true;
        for (int i = 0; i < text.length(); i++) {
            alike &= call("feed", text.charAt(i));
        }
        return alike;
    }

    /** Whole lines with, at times, a word of no sense among them. */
    private boolean anyText() {
        StringBuilder text = new StringBuilder();
        int words = random.nextInt(10);
        boolean sense = random.nextInt(3) > 0;
        for (int i = 0; i < words; i++) {
            text.append(WORDS[random.nextInt(sense ? 12 : WORDS.length)]);
            if (random.nextInt(3) == 0) {
                text.append(' ');
            }
        }
        return call("end", 0) & feed(text.toString()) & call("text") & call("fault");
    }

    private String anyGarden() {
        StringBuilder text = new StringBuilder("hedge");
        List<Integer> hedges = new ArrayList<>();
        for (int h = 0; h < 24; h++) {
            if (random.nextInt(5) < 2) {
                hedges.add(h);
                text.append(' ').append(h);
            }
        }
        text.append(';');
        for (int g = random.nextInt(5); g > 0; g--) {
            text.append(new String[] {"plain", "spite", "close", "wide"}[random.nextInt(4)]);
            text.append(random.nextInt(24)).append(' ').append(random.nextInt(10)).append(';');
        }
        text.append("gate").append(random.nextInt(16)).append(';');
        return text.toString();
    }

    private int below(int bound) {
        return random.nextInt(bound);
    }

    /** A garden told whole, and each question about what would be, while the guests are IN. */
    private boolean scene() {
        boolean alike = call("end", 0) & feed(anyGarden()) & call("text");
        for (int i = 1 + below(4); i > 0; i--) {
            alike &= call("come", below(16), 1 + below(below(2) == 0 ? 60 : 12));
        }
        if (below(2) == 0) {
            alike &= call("days", below(3));
        }
        for (String best : new String[] {"cut", "door", "sack", "swap"}) {
            int n = below(below(2) == 0 ? 61 : 12);
            alike &= call(best, n, 0) & call(best, n, 1);
        }
        for (int what = 0; what < 2; what++) {
            int n = below(below(2) == 0 ? 61 : 12);
            alike &= call("kind", below(4), n, what) & call("drift", random.nextInt(), 1 + below(60), what);
            alike &= call("luck", below(11), below(4), 1 + below(8), what) & call("mean", below(11), below(9), what);
        }
        return alike & call("out", below(4)) & call("food", below(4)) & call("again") & told();
    }

    /** What is SEEN comes true at least for the garden as it is, so that some kinds and tastes fit. */
    private boolean told() {
        boolean alike = true;
        for (int s = below(4); s > 0; s--) {
            int n = below(21);
            int h = below(24);
            alike &= call("see", n, h, maze.stands(h, n));
        }
        int g = below(4);
        return alike & call("kinds", g) & call("tastes", g) & call("ask", g, 0) & call("ask", g, 1);
    }

    private boolean everything() {
        boolean alike = true;
        for (int what = 0; what < 8; what++) {
            alike &= call("rule", what);
        }
        for (int h = 0; h < 24; h++) {
            alike &= call("hedge", h);
        }
        for (int i = 0; i < 4; i++) {
            for (int what = 0; what < 3; what++) {
                alike &= call("gardener", i, what) & call("guest", i, what);
            }
        }
        for (int what = 0; what < 6; what++) {
            alike &= call("count", what);
        }
        return alike & call("torn") & call("fault");
    }

    private boolean run(int weights) {
        boolean alike = true;
        if (random.nextInt(3) > 0) {
            alike = feed(anyGarden()) & call("text");
            for (int i = random.nextInt(5); i > 0; i--) {
                alike &= call("come", random.nextInt(16), random.nextInt(random.nextBoolean() ? 61 : 12));
            }
        }
        boolean scenes = random.nextBoolean();
        while (alike && calls < (scenes ? 330 : 430)) {
            alike = scenes ? scene() : random.nextInt(120) == 0 ? anyText() : anyCall(weights);
        }
        alike &= everything();
        if (!alike) {
            System.out.println("behind: " + log);
        }
        return alike;
    }

    public static void main(String[] args) {
        int weights = 0;
        for (String row : CALLS) {
            weights += Integer.parseInt(row.split(" ")[1]);
        }
        int runs = args.length > 0 ? Integer.parseInt(args[0]) : 150;
        long from = args.length > 1 ? Long.parseLong(args[1]) : 1;
        for (long seed = from; seed < from + runs && CHECK.wrong() == 0; seed++) {
            new OracleTest(seed).run(weights);
        }
        CHECK.finish();
    }
}
