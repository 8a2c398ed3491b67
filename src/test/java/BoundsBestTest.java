/** Promises 26 to 33: what is best, and rain: how many DAYS, the first of several, none, empty and full. */
public final class BoundsBestTest {
    private static final int BAD = Run.BAD, STATE = Run.STATE, NONE = Run.NONE;
    /** The fourth opens HEDGE 2 on the 60th DAY, and the GUEST AT 3 is OUT by the last of his FOOD. */
    private static final String LAST_OF_FOUR = "wide 0 0; wide 0 0; wide 23 5; guest 3 60; gate 2; ";
    /** A second GUEST, in a pocket whose HEDGES nobody opens. */
    private static final String POCKET = "wide 0 0;" + LAST_OF_FOUR + "guest 8 60; hedge 2 15 6 16 20;";
    /** The first shuts the second GUEST's pocket on DAY 0. */
    private static final String SHUTTER = "close 6 0;" + LAST_OF_FOUR + "guest 8 60; hedge 2 15 16 20;";

    /** The numbers n and what of the questions of what is best. */
    private static void daysAndWhat(String name, String call) {
        for (int what = 0; what <= 1; what++) {
            String days = call + " * " + what;
            Run.bounds(() -> Run.garden(name + ", n"), days, 0, 60);
        }
        Run.bounds(() -> Run.garden(name + ", what"), call + " 9 *", 0, 1);
        Run.garden(name + ", neither").refused(BAD, call + " 61 2").refused(BAD, call + " -1 -1");
    }

    private static void best(String name, String text, String call, int which, int howMany) {
        Run.told(name, text).asked(which, call + " 0").asked(howMany, call + " 1");
    }

    // ---- cut

    private static void promise26NAndWhat() {
        daysAndWhat("promise 26", "cut");
    }

    private static void promise26Behind0To60() {
        best("promise 26, no DAY", POCKET, "cut 0", NONE, NONE);
        best("promise 26, one DAY", POCKET, "cut 1", 2, 1);
        best("promise 26, 59 DAYS", POCKET, "cut 59", 2, 1);
        best("promise 26, 60 DAYS", POCKET, "cut 60", 6, 2);
    }

    private static void promise26TheFirstAndTheLastHedge() {
        best("promise 26, HEDGE 0", "hedge 0; guest 1 1;", "cut 1", 0, 1);
        best("promise 26, HEDGE 23", "hedge 11 23; guest 15 1; gate 11;", "cut 1", 23, 1);
        best("promise 26, of two the first", "hedge 11 23; guest 15 60;", "cut 60", 11, 1);
        best("promise 26, one that is to stand", "plain 0 0; guest 1 1;", "cut 1", 0, 1);
    }

    private static void promise26MoreThanAsItIs() {
        best("promise 26, all get OUT", "guest 1 1; guest 2 2;", "cut 2", NONE, NONE);
        best("promise 26, no one more", "hedge 0; guest 1 3;", "cut 3", NONE, NONE);
        best("promise 26, one more", "hedge 0; guest 1 3;", "cut 2", 0, 1);
        best("promise 26, no GUESTS", "hedge 0;", "cut 60", NONE, NONE);
        Run.told("promise 26, one OUT and one more", "guest 0 1; guest 15 9; hedge 11 23;").does("days 1").asked(11, "cut 9 0").asked(2, "cut 9 1");
    }

    // ---- door

    private static void promise27NAndWhat() {
        daysAndWhat("promise 27", "door");
    }

    private static void promise27Behind0To60() {
        String two = "wide 0 0;" + LAST_OF_FOUR + "guest 0 60; hedge 2 15;";
        best("promise 27, no DAY", two, "door 0", 0, 0);
        best("promise 27, 59 DAYS", two, "door 59", 0, 1);
        best("promise 27, 60 DAYS", two, "door 60", 2, 2);
    }

    private static void promise27TheFirstAndTheLastPlot() {
        best("promise 27, PLOT 0", "guest 0 1; gate 15;", "door 1", 0, 1);
        best("promise 27, PLOT 15", "guest 15 1; hedge 11 23;", "door 1", 15, 1);
        best("promise 27, of several the first, not that which is", "guest 5 1; gate 9;", "door 1", 1, 1);
        best("promise 27, four", "guest 15 1; guest 15 2; guest 15 3; guest 15 60;", "door 1", 11, 4);
    }

    private static void promise27NoneIsNoAnswer() {
        best("promise 27, no GUESTS", "gate 9;", "door 60", 0, 0);
        best("promise 27, without FOOD", "guest 5 0;", "door 60", 0, 0);
        Run.told("promise 27, all are OUT", "guest 9 1; guest 9 1; gate 9;").does("days 1").asked(0, "door 0 0").asked(2, "door 0 1").asked(2, "door 60 1");
    }

    // ---- food

    private static void promise28ThereIsSuchAGuest() {
        Run.bounds(() -> Run.garden("promise 28, a GUEST"), "food *", 0, 2);
        new Run("promise 28, of none").refused(BAD, "food 0").refused(BAD, "food -1");
        new Run("promise 28, of four").does("come 0 0", "come 0 0", "come 0 0", "come 15 0").asked(6, "food 3").refused(BAD, "food 4");
    }

    private static void promise28StateIsOutOrLost() {
        Run.garden("promise 28, OUT, LOST").refused(STATE, "food 1").refused(STATE, "food 2").refused(BAD, "food 3");
        Run.garden("promise 28, IN again").does("move 1 11", "move 2 11").asked(1, "food 1").asked(1, "food 2");
        Run.told("promise 28, STATE ahead of NONE", "guest 15 0; hedge 11 23;").asked(NONE, "food 0").does("days 1").refused(STATE, "food 0");
    }

    private static void promise28From1To60() {
        Run.told("promise 28, AT THE GATE", "guest 0 0; guest 1 60; guest 2 1;").asked(1, "food 0").asked(1, "food 1").asked(2, "food 2");
        Run in60 = Run.told("promise 28, 60", "wide 0 0;" + LAST_OF_FOUR + "hedge 2 15;");
        in60.asked(60, "food 0").does("bread 0 0").asked(60, "food 0").does("days 0", "bread 0 1", "days 1").asked(59, "food 0");
        Run in61 = Run.told("promise 28, 61", "wide 18 5; wide 0 0; wide 0 0; wide 0 0; guest 3 60; gate 2; hedge 2 15;");
        in61.asked(NONE, "food 0").does("days 1").asked(60, "food 0");
    }

    private static void promise28NoneIsByNone() {
        Run.told("promise 28, no way", "guest 15 60; hedge 11 23;").asked(NONE, "food 0");
    }

    // ---- sack

    private static void promise29NAndWhat() {
        daysAndWhat("promise 29", "sack");
    }

    private static void promise29Behind0To60() {
        best("promise 29, no DAY", SHUTTER, "sack 0", NONE, NONE);
        best("promise 29, 59 DAYS", SHUTTER, "sack 59", 0, 1);
        best("promise 29, 60 DAYS", SHUTTER, "sack 60", 0, 2);
    }

    private static void promise29TheFirstAndTheLast() {
        String fourth = "wide 0 0; wide 0 0; wide 0 0; close 2 0; guest 4 9; gate 3;";
        best("promise 29, the last", fourth, "sack 4", 3, 1);
        best("promise 29, ahead of his DAY", fourth, "sack 3", NONE, NONE);
        String tie = "close 9 0; close 22 0; guest 12 60; guest 15 60; hedge 20 23 10;";
        best("promise 29, of two the first", tie, "sack 60", 0, 1);
    }

    private static void promise29NoneIsNone() {
        best("promise 29, no GARDENERS", "guest 1 1;", "sack 1", NONE, NONE);
        best("promise 29, no GUESTS", "close 0 0;", "sack 60", NONE, NONE);
        best("promise 29, no one more", "wide 0 0; guest 1 1;", "sack 1", NONE, NONE);
        Run.told("promise 29, who has left", "close 0 0; guest 1 1;").asked(0, "sack 1 0").does("leave 0").asked(NONE, "sack 1 0");
    }

    private static void promise29NothingIsDoneOnHisDays() {
        best("promise 29, LAST stays none", "close 20 0; spite 0 0; guest 2 2;", "sack 2", NONE, NONE);
        // As it is, his TASTE has gone on to HEDGE 0 on his second DAY.
        Run.told("promise 29, his TASTE stays", "close 23 1; guest 15 60;").asked(NONE, "sack 60 0");
        best("promise 29, on all his DAYS", "close 9 1; guest 12 3; hedge 20; gate 14;", "sack 2", 0, 1);
    }

    // ---- swap

    private static void promise30NAndWhat() {
        daysAndWhat("promise 30", "swap");
    }

    private static void promise30Behind0To60() {
        best("promise 30, no DAY", SHUTTER, "swap 0", NONE, NONE);
        // Had the fourth the first's DAYS, he would open HEDGE 2 on the 57th.
        best("promise 30, 56 DAYS", SHUTTER, "swap 56", 1, 1);
        best("promise 30, 57 DAYS", SHUTTER, "swap 57", 3, 2);
        best("promise 30, 59 DAYS", SHUTTER, "swap 59", 3, 2);
        best("promise 30, 60 DAYS", SHUTTER, "swap 60", 1, 2);
    }

    private static void promise30TheLeastAndTheGreatest() {
        best("promise 30, 0 and 1, of two the least", "close 0 0; wide 0 0; wide 0 0; guest 1 1;", "swap 1", 1, 1);
        best("promise 30, 2 and 3", "wide 0 0; wide 0 0; close 2 0; wide 0 0; guest 0 9; gate 3;", "swap 3", 23, 1);
        best("promise 30, 0 and 3", "close 2 0; close 2 0; close 2 0; wide 0 0; guest 2 1; gate 3;", "swap 1", 3, 1);
    }

    private static void promise30NoneIsByNone() {
        best("promise 30, no GARDENERS", "guest 1 1;", "swap 60", NONE, NONE);
        best("promise 30, one GARDENER", "close 0 0; guest 1 1;", "swap 1", NONE, NONE);
        best("promise 30, two", "close 0 0; wide 0 0; guest 1 1;", "swap 1", 1, 1);
        best("promise 30, one less", "wide 0 0; close 0 0; guest 1 1;", "swap 1", NONE, NONE);
        best("promise 30, no one more", "wide 0 0; wide 1 0; guest 1 1;", "swap 1", NONE, NONE);
        best("promise 30, no GUESTS", "close 0 0; wide 0 0;", "swap 60", NONE, NONE);
        Run.told("promise 30, who has left", "close 0 0; wide 0 0; guest 1 1;").does("leave 1").asked(NONE, "swap 1 0");
    }

    private static void promise30EachHasTheOthersPlace() {
        // HEDGE 1 has to be opened first, then HEDGE 0.
        best("promise 30, both KINDS and TASTES", "wide 23 0; wide 22 0; hedge 0 1; guest 2 9;", "swap 2", 1, 1);
        best("promise 30, PACES", "wide 0 0; wide 22 1; hedge 0 12; guest 1 9;", "swap 3", 1, 1);
    }

    /** What one question found is nothing to the next. */
    private static void promise30QuestionsOneBehindAnother() {
        Run.told("promise 30, one behind another", "close 0 0; guest 1 1;").asked(1, "sack 1 1").asked(NONE, "swap 1 0").asked(0, "sack 1 0")
            .asked(NONE, "cut 0 0").asked(1, "door 1 1").asked(NONE, "swap 1 1").asked(3, "kind 0 1 0").asked(NONE, "sack 0 0");
    }

    // ---- kind

    private static void promise31GNAndWhat() {
        Run.bounds(() -> Run.garden("promise 31, a GARDENER"), "kind * 9 0", 0, 2);
        daysAndWhat("promise 31", "kind 0");
        new Run("promise 31, of none").refused(BAD, "kind 0 0 0").refused(BAD, "kind -1 0 0");
        Run.garden("promise 31, who has left").does("leave 2").refused(BAD, "kind 2 9 0");
    }

    private static void promise31Behind0To60() {
        best("promise 31, no DAY", SHUTTER, "kind 0 0", 0, 0);
        best("promise 31, 59 DAYS", SHUTTER, "kind 0 59", 0, 1);
        best("promise 31, 60 DAYS", SHUTTER, "kind 0 60", 0, 2);
    }

    private static void promise31TheFirstAndTheLastKind() {
        best("promise 31, wide alone", "close 0 0; guest 1 1;", "kind 0 1", 3, 1);
        best("promise 31, plain, of several the first", "wide 0 0; guest 1 1; hedge 0 1 13;", "kind 0 1", 0, 1);
        // HEDGE 2 is in his way: plain and close shut it, spite goes to HEDGE 19, wide to 21.
        best("promise 31, spite, ahead of wide", "wide 4 0; wide 2 0; guest 5 60; gate 3;", "kind 1 3", 1, 1);
        // HEDGE 16 is in his way: where it is now shut, now open, he goes to and fro.
        best("promise 31, close, ahead of wide", "plain 16 0; guest 0 60; gate 8;", "kind 0 4", 2, 1);
    }

    private static void promise31NoneIsNoAnswer() {
        best("promise 31, no GUESTS", "close 0 0;", "kind 0 60", 0, 0);
        best("promise 31, nobody by any", "close 0 0; guest 5 0;", "kind 0 60", 0, 0);
    }

    // ---- rain

    private static void fraction(Run run, String call, long part, long whole) {
        run.asked(part, call + " 0").asked(whole, call + " 1");
    }

    private static void promise32VINAndWhat() {
        for (int what = 0; what <= 1; what++) {
            String odds = "luck * 0 4 " + what;
            String days = "luck 3 0 * " + what;
            Run.bounds(() -> Run.garden("promise 32, v"), odds, 0, 10);
            Run.bounds(() -> Run.garden("promise 32, n"), days, 0, 8);
        }
        Run.bounds(() -> Run.garden("promise 32, a GUEST"), "luck 3 * 4 0", 0, 2);
        Run.bounds(() -> Run.garden("promise 32, what"), "luck 3 0 4 *", 0, 1);
        new Run("promise 32, of none").refused(BAD, "luck 0 0 0 0").refused(BAD, "luck 0 -1 0 0");
    }

    private static void promise32ByVOutOfTen() {
        Run run = Run.told("promise 32, he is OUT if it rains", "close 0 0; guest 1 9;");
        long[][] due = {{0, 1}, {1, 10}, {1, 5}, {3, 10}, {2, 5}, {1, 2}, {3, 5}, {7, 10}, {4, 5}, {9, 10}, {1, 1}};
        for (int v = 0; v <= 10; v++) {
            fraction(run, "luck " + v + " 0 1", due[v][0], due[v][1]);
        }
    }

    private static void promise32Of0To8Days() {
        Run snake = Run.told("promise 32, eight STEPS", "guest 8 8; hedge 12 13 14 17 18 19 20 21 22;");
        fraction(snake, "luck 3 0 0", 0, 1);
        fraction(snake, "luck 3 0 7", 0, 1);
        fraction(snake, "luck 3 0 8", 1, 1);
        snake.does("bread 0 7");
        fraction(snake, "luck 3 0 8", 0, 1);
        Run shut = Run.told("promise 32, one dry DAY is enough", "wide 0 0; guest 15 60; gate 11; hedge 11 23;");
        fraction(shut, "luck 1 0 8", 99999999, 100000000);
        fraction(shut, "luck 9 0 8", 56953279, 100000000);
        fraction(shut, "luck 5 0 8", 255, 256);
        fraction(shut, "luck 10 0 8", 0, 1);
        fraction(shut, "luck 0 0 8", 1, 1);
        fraction(shut, "luck 10 0 0", 0, 1);
    }

    private static void promise32WhoIsNotIn() {
        Run run = Run.garden("promise 32, OUT, LOST");
        fraction(run, "luck 3 1 0", 1, 1);
        fraction(run, "luck 3 1 8", 1, 1);
        fraction(run, "luck 3 2 0", 0, 1);
        fraction(run, "luck 3 2 8", 0, 1);
    }

    private static void promise32NothingIsDoneWhenItRains() {
        Run taste = Run.told("promise 32, no TASTE changes", "wide 21 2; guest 1 60; hedge 0 1 13;");
        // HEDGE 2 is opened on his first dry DAY, HEDGE 0 on his second.
        fraction(taste, "luck 5 0 1", 0, 1);
        fraction(taste, "luck 5 0 2", 1, 4);
        Run last = Run.told("promise 32, no LAST changes", "close 20 0; spite 23 0; guest 15 60; hedge 11 23; gate 11;");
        fraction(last, "luck 5 0 2", 1, 4);
        Run others = Run.told("promise 32, the DAY is over", "plain 9 0; wide 0 0; guest 15 60; gate 11; hedge 11 23;");
        fraction(others, "luck 3 0 1", 0, 1);
        fraction(others, "luck 3 0 2", 7, 10);
        fraction(others, "luck 3 0 3", 7, 10);
    }

    private static void promise33VNAndWhat() {
        for (int what = 0; what <= 1; what++) {
            String odds = "mean * 4 " + what;
            String days = "mean 3 * " + what;
            Run.bounds(() -> Run.garden("promise 33, v"), odds, 0, 10);
            Run.bounds(() -> Run.garden("promise 33, n"), days, 0, 8);
        }
        Run.bounds(() -> Run.garden("promise 33, what"), "mean 3 4 *", 0, 1);
    }

    private static void promise33EmptyAndFull() {
        fraction(new Run("promise 33, no GUESTS"), "mean 3 8", 0, 1);
        fraction(new Run("promise 33, no GUESTS, no DAY"), "mean 0 0", 0, 1);
        Run four = Run.told("promise 33, four", "wide 0 0; guest 15 60; guest 15 60; guest 15 60; guest 15 60; gate 11; hedge 11 23;");
        fraction(four, "mean 1 8", 99999999, 25000000);
        fraction(four, "mean 0 8", 4, 1);
        fraction(four, "mean 10 8", 0, 1);
        fraction(four, "mean 5 1", 2, 1);
        fraction(four, "mean 3 1", 14, 5);
        fraction(four, "mean 3 0", 0, 1);
        Run out = Run.garden("promise 33, who is OUT counts");
        fraction(out, "mean 3 0", 1, 1);
    }

    public static void main(String[] args) throws ReflectiveOperationException {
        Run.all(BoundsBestTest.class);
    }
}
