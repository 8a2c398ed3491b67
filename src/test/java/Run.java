import java.lang.reflect.InvocationTargetException;
import java.lang.reflect.Method;
import java.lang.reflect.Modifier;
import java.util.ArrayList;
import java.util.Arrays;
import java.util.Comparator;
import java.util.HashMap;
import java.util.List;
import java.util.Map;
import java.util.function.Supplier;

/**
 * One new object and the calls on it, told as words: "runs 60 0"; min and max are the least and the
 * greatest int. That a call changes nothing is looked at by twins: two new objects get all calls of
 * the run, one of them the call in question too, and then both have to answer the whole EXAM alike.
 */
final class Run {
    static final int BAD = -1, STATE = -2, FULL = -3, NONE = -4;
    /** Behind so many calls what an object answers is free, so no test asks further. */
    static final int PROMISED_CALLS = 512;
    private static final Check CHECK = new Check();
    private static final Map<String, Method> FACE = face();
    private static final List<String> EXAM = exam();
    /** Something of everything, nothing of it as at first, with room left for more of each. */
    private static final String[] GARDEN = {
        "hire 0 3 5", "hire 1 7 2", "hire 3 11 9", "come 15 20", "come 6 4", "come 9 0",
        "grow 2 1", "grow 5 1", "grow 20 1", "open 6", "days 2", "keep 0",
        "grow 14 1", "alter 0 1 8", "bread 0 31", "open 11", "days 1", "keep 1",
        "grow 9 1", "move 0 12", "days 1", "see 3 9 1", "see 7 4 0",
        "sheet 0 0 6", "lay 0 0 1", "lay 0 1 1", "lay 0 2 17", "lay 0 3 1", "lay 0 4 2",
        "sheet 1 1 4", "lay 1 0 8", "lay 1 1 1", "lay 1 2 19", "lay 1 3 1",
        "sheet 2 2 7", "lay 2 0 21", "lay 2 1 1", "lay 2 2 23", "lay 2 3 1",
        "read 3 0 0 1", "feed 64"};

    private final String name;
    private final MownMaze maze = new MownMaze();
    private final List<String> calls = new ArrayList<>();

    Run(String name) {
        this.name = name;
    }

    /** A run whose maze is told by a text. */
    static Run told(String name, String text) {
        Run run = new Run(name).fed(text);
        CHECK.isTrue(name + ": the test's own text is taken: " + text, run.ask("text") >= 0);
        return run;
    }

    /** GARDEN, with a fault that is 1, a torn that is 1, and eight bytes on THE TAPE. */
    static Run garden(String name) {
        return new Run(name).does(GARDEN).due(-10, "text").fed("gate 13;");
    }

    Run fed(String text) {
        for (int i = 0; i < text.length(); i++) {
            ask("feed " + (int) text.charAt(i));
        }
        return this;
    }

    /** Calls that lead to where the test begins: none of them may be refused. */
    Run does(String... made) {
        for (String call : made) {
            long got = ask(call);
            CHECK.isTrue(name + ": " + call + " leads on, not " + got, got >= 0);
        }
        return this;
    }

    Run due(long want, String call) {
        CHECK.due(name + ": " + call, ask(call), want);
        return this;
    }

    /** A call that is refused: its answer is as due, and nothing is changed by it. */
    Run refused(long want, String call) {
        sameBehind(List.of(call), List.of(), 0);
        return due(want, call);
    }

    /** A question: its answer is as due, and nothing is changed by it. */
    Run asked(long want, String call) {
        return refused(want, call);
    }

    /** A call that is taken: its answer is as due, and the exam shows that something is changed by it. */
    Run changed(long want, String call) {
        CHECK.isTrue(name + ": " + call + " changes something", difference(List.of(call), List.of(), 0) != null);
        return due(want, call);
    }

    /** THE TAPE is refused by text(): it is empty then, fault() is told, and all else is as it was. */
    Run refusedText(int place, int fault) {
        // The exam's first question is fault(), which a refused text does change.
        sameBehind(List.of("text"), List.of("end 0"), 1);
        return due(-10 - place, "text").due(fault, "fault").due(0, "count 2");
    }

    /** How many calls are left of those for which the document promises. */
    int left() {
        return PROMISED_CALLS - calls.size();
    }

    /** What these calls make of the run is what those make of it. */
    Run sameAs(List<String> these, List<String> those) {
        sameBehind(these, those, 0);
        return this;
    }

    /**
     * The number told as * may be least to most: there the call is taken; one beyond on either side,
     * and as far away as can be, it is BAD, and nothing is changed.
     */
    static void bounds(Supplier<Run> made, String call, int least, int most) {
        for (int v : new int[] {least, most}) {
            Run run = made.get();
            String inside = call.replace("*", "" + v);
            CHECK.isTrue(run.name + ": " + inside + " is not BAD", run.ask(inside) != BAD);
        }
        for (int v : new int[] {Integer.MIN_VALUE, least - 1, most + 1, Integer.MAX_VALUE}) {
            made.get().refused(BAD, call.replace("*", "" + v));
        }
    }

    long ask(String call) {
        calls.add(call);
        CHECK.isTrue(name + ": the test's own run has 512 calls at most", calls.size() <= PROMISED_CALLS);
        return answer(maze, call);
    }

    private void sameBehind(List<String> these, List<String> those, int from) {
        String found = difference(these, those, from);
        CHECK.isTrue(name + ": behind " + these + ", not " + those + ": " + found, found == null);
    }

    /** The first question from that one on which the twins answer otherwise; null if there is none. */
    private String difference(List<String> these, List<String> those, int from) {
        int most = calls.size() + Math.max(these.size(), those.size()) + EXAM.size();
        CHECK.isTrue(name + ": the test's own twins have " + most + " calls, 512 at most", most <= PROMISED_CALLS);
        MownMaze one = twin(these);
        MownMaze other = twin(those);
        String found = null;
        for (int i = 0; i < EXAM.size() && found == null; i++) {
            long got = answer(one, EXAM.get(i));
            long want = answer(other, EXAM.get(i));
            if (i >= from && got != want) {
                found = EXAM.get(i) + " answers " + got + ", not " + want;
            }
        }
        return found;
    }

    private MownMaze twin(List<String> more) {
        MownMaze made = new MownMaze();
        for (String call : calls) {
            answer(made, call);
        }
        for (String call : more) {
            answer(made, call);
        }
        return made;
    }

    static long answer(MownMaze of, String call) {
        String[] words = call.split(" ");
        Object[] numbers = new Object[words.length - 1];
        for (int i = 0; i < numbers.length; i++) {
            numbers[i] = number(words[i + 1]);
        }
        try {
            return ((Number) FACE.get(words[0]).invoke(of, numbers)).longValue();
        } catch (InvocationTargetException e) {
            throw new AssertionError(call + " threw", e.getCause());
        } catch (IllegalAccessException e) {
            throw new AssertionError(call, e);
        }
    }

    private static int number(String word) {
        switch (word) {
            case "min": return Integer.MIN_VALUE;
            case "max": return Integer.MAX_VALUE;
            default: return Integer.parseInt(word);
        }
    }

    private static Map<String, Method> face() {
        Map<String, Method> face = new HashMap<>();
        for (Method method : MownMaze.class.getDeclaredMethods()) {
            if (Modifier.isPublic(method.getModifiers())) {
                face.put(method.getName(), method);
            }
        }
        return face;
    }

    /** Questions that show all that an object holds; the later ones change it, so only twins get them. */
    private static List<String> exam() {
        List<String> exam = new ArrayList<>(List.of("fault", "torn"));
        addMaze(exam);
        for (int i = 0; i < 6; i++) {
            exam.add("count " + i);
        }
        for (int g = 0; g < 4; g++) {
            exam.addAll(List.of("gardener " + g + " 3", "kinds " + g, "tastes " + g));
        }
        for (int k = 0; k < 4; k++) {
            for (int lane = 0; lane < 3; lane++) {
                exam.addAll(List.of("read " + k + " " + lane + " 0 20", "torn"));
            }
        }
        addMaze(exam);
        for (int k = 0; k < 4; k++) {
            for (int i = 0; i < 8; i++) {
                exam.add("lay " + k + " " + i + " 0");
            }
        }
        for (int k = 0; k < 2; k++) {
            exam.add("back " + k);
            addMaze(exam);
        }
        exam.addAll(List.of("text", "fault", "rule 0", "rule 1", "rule 3", "rule 4"));
        return exam;
    }

    private static void addMaze(List<String> exam) {
        for (int what = 0; what < 8; what++) {
            exam.add("rule " + what);
        }
        for (int h = 0; h < 24; h++) {
            exam.add("hedge " + h);
        }
        for (int i = 0; i < 4; i++) {
            for (int what = 0; what < 3; what++) {
                exam.addAll(List.of("gardener " + i + " " + what, "guest " + i + " " + what));
            }
        }
    }

    /** Runs every test of a class: its methods that are named by a promise or by a term. */
    static void all(Class<?> tests) throws ReflectiveOperationException {
        Method[] methods = tests.getDeclaredMethods();
        Arrays.sort(methods, Comparator.comparing(Method::getName));
        for (Method method : methods) {
            if (method.getName().matches("(promise|terms)\\d.*")) {
                method.setAccessible(true);
                method.invoke(null);
            }
        }
        CHECK.finish();
    }
}
