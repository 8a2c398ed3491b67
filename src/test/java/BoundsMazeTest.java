import java.util.Arrays;

/** Promises 1 and 6 to 19: what there is, what is changed; the bounds of PLOTS, HEDGES, GARDENERS, GUESTS. */
public final class BoundsMazeTest {
    private static final int BAD = Run.BAD, STATE = Run.STATE, FULL = Run.FULL, NONE = Run.NONE;

    private static Run allHedges(String name) {
        Run run = new Run(name);
        for (int h = 0; h < 24; h++) {
            run.does("grow " + h + " 1");
        }
        return run;
    }

    private static Run fourGardeners(String name) {
        return new Run(name).does("hire 0 0 0", "hire 1 1 1", "hire 2 2 2", "hire 3 3 3");
    }

    private static Run fourGuests(String name) {
        return new Run(name).does("come 0 0", "come 1 1", "come 2 2", "come 3 3");
    }

    private static Run onDay999(Run run) {
        for (int i = 0; i < 33; i++) {
            run.does("days 30");
        }
        return run.does("days 9");
    }

    // ---- a new object

    private static void promise1NoHedgeStands() {
        Run run = new Run("promise 1, HEDGES");
        for (int h = 0; h < 24; h++) {
            run.asked(0, "hedge " + h);
        }
        run.due(0, "rule 4");
    }

    private static void promise1NoGardenersNoGuests() {
        new Run("promise 1, nobody").asked(0, "rule 0").asked(0, "rule 1").refused(BAD, "gardener 0 0")
            .refused(BAD, "guest 0 0").due(0, "count 4").due(0, "count 5").due(0, "rule 5").due(0, "rule 6");
    }

    private static void promise1AllElseAtFirst() {
        new Run("promise 1, DAY, THE GATE, LAST").due(0, "rule 2").due(0, "rule 3").due(NONE, "rule 7");
        new Run("promise 1, SEEN, IMAGES, THE TAPE").due(0, "count 0").due(0, "count 1").due(0, "count 2");
        new Run("promise 1, no IMAGE").refused(STATE, "back 0").refused(STATE, "back 1");
        new Run("promise 1, no FAULTS").due(0, "fault").due(0, "torn");
    }

    private static void promise1SheetsHaveNothing() {
        Run run = new Run("promise 1, SHEETS").due(NONE, "count 3");
        for (int k = 0; k < 4; k++) {
            run.refused(-11, "lay " + k + " 0 0");
            for (int lane = 0; lane < 3; lane++) {
                run.does("read " + k + " " + lane + " 0 0").due(0, "torn").due(0, "read " + k + " " + lane + " 0 1").due(1, "torn");
            }
        }
    }

    private static void promise1ObjectsAreApart() {
        Run one = Run.garden("promise 1, one object");
        Run other = new Run("promise 1, another object");
        one.due(3, "rule 0");
        other.due(0, "rule 0").due(0, "rule 4").due(0, "count 2").due(NONE, "count 3").due(STATE, "back 0").due(0, "fault");
    }

    // ---- what there is

    private static void promise6WhatIs0To7() {
        Run.bounds(() -> Run.garden("promise 6, what"), "rule *", 0, 7);
        Run run = Run.garden("promise 6, asked");
        int[] due = {3, 3, 4, 11, 6, 2, 4, 8};
        for (int what = 0; what < due.length; what++) {
            run.asked(due[what], "rule " + what);
        }
    }

    private static void promise6EmptyAndFull() {
        fourGardeners("promise 6, four GARDENERS").due(4, "rule 0").does("leave 0").due(0, "rule 0");
        fourGuests("promise 6, four GUESTS").due(4, "rule 1");
        allHedges("promise 6, all HEDGES").due(24, "rule 4").does("grow 0 0").due(23, "rule 4").does("grow 23 0").due(22, "rule 4");
        new Run("promise 6, THE GATE").does("open 15").due(15, "rule 3").does("open 0").due(0, "rule 3");
        onDay999(new Run("promise 6, DAY")).due(999, "rule 2");
    }

    private static void promise6BitsOfOutAndLost() {
        new Run("promise 6, all are OUT").does("come 0 1", "come 0 1", "come 0 1", "come 0 1")
            .due(0, "rule 5").due(4, "days 1").due(15, "rule 5").due(0, "rule 6");
        new Run("promise 6, all are LOST").does("come 0 0", "come 0 0", "come 0 0", "come 0 0")
            .due(0, "rule 6").due(0, "days 1").due(0, "rule 5").due(15, "rule 6");
        new Run("promise 6, the first and the last").does("come 0 1", "come 9 9", "come 9 0", "come 0 1")
            .due(2, "days 1").due(9, "rule 5").due(4, "rule 6");
    }

    private static void promise6LastOrNone() {
        new Run("promise 6, LAST is none").due(NONE, "rule 7").does("days 30").due(NONE, "rule 7");
        new Run("promise 6, LAST is 0").does("hire 0 0 0", "days 1").due(0, "rule 7");
        new Run("promise 6, LAST is 23").does("hire 0 23 0", "days 1").due(23, "rule 7").does("leave 0", "days 9").due(23, "rule 7");
    }

    private static void promise7HedgeIs0To23() {
        Run.bounds(() -> Run.garden("promise 7, a HEDGE"), "hedge *", 0, 23);
        new Run("promise 7, the first").does("grow 0 1").asked(1, "hedge 0").due(0, "hedge 1").due(0, "hedge 23");
        new Run("promise 7, the last").does("grow 23 1").asked(1, "hedge 23").due(0, "hedge 22").due(0, "hedge 0");
    }

    private static void promise8ThereIsSuchAGardener() {
        for (int n = 1; n <= 4; n++) {
            int most = n - 1;
            for (int what = 0; what <= 3; what++) {
                String call = "gardener * " + what;
                Run.bounds(() -> fourGardeners("promise 8, one of " + (most + 1)).does("leave " + (most + 1)), call, 0, most);
            }
        }
        new Run("promise 8, of none").refused(BAD, "gardener 0 0").refused(BAD, "gardener -1 0").refused(BAD, "gardener 0 3");
        fourGardeners("promise 8, all have left").does("leave 0").refused(BAD, "gardener 0 0").refused(BAD, "gardener 3 1");
    }

    private static void promise8WhatIs0To3() {
        Run.bounds(() -> Run.garden("promise 8, what"), "gardener 2 *", 0, 3);
        Run.garden("promise 8, asked").asked(3, "gardener 2 0").asked(20, "gardener 2 1").asked(9, "gardener 2 2").asked(3, "gardener 2 3");
    }

    private static void promise8WideGoesTo23LessHisTaste() {
        new Run("promise 8, wide").does("hire 3 0 0").due(23, "gardener 0 3").does("alter 0 1 23").due(0, "gardener 0 3")
            .does("alter 0 1 11").due(12, "gardener 0 3").does("alter 0 1 12").due(11, "gardener 0 3");
        new Run("promise 8, close").does("hire 2 0 0").due(0, "gardener 0 3").does("alter 0 1 23").due(23, "gardener 0 3");
    }

    private static void promise8SpiteGoesToLastIfThereIsOne() {
        new Run("promise 8, spite without LAST").does("hire 1 5 0").due(5, "gardener 0 3").does("alter 0 1 23").due(23, "gardener 0 3");
        new Run("promise 8, spite, LAST is 0").does("hire 0 0 0", "hire 1 5 0", "days 1").due(0, "gardener 1 3");
        new Run("promise 8, spite, LAST is 23").does("hire 0 23 0", "hire 1 5 0", "days 1").due(23, "gardener 1 3");
        new Run("promise 8, others do not mind LAST").does("hire 0 23 0", "hire 2 5 0", "hire 3 5 0", "days 1")
            .due(23, "gardener 0 3").due(5, "gardener 1 3").due(18, "gardener 2 3");
    }

    private static void promise9ThereIsSuchAGuest() {
        String[] comes = {"come 15 20", "come 6 4", "come 9 0", "come 0 60"};
        for (int n = 1; n <= 4; n++) {
            int most = n - 1;
            for (int what = 0; what <= 2; what++) {
                String call = "guest * " + what;
                Run.bounds(() -> new Run("promise 9, one of " + (most + 1)).does(Arrays.copyOf(comes, most + 1)), call, 0, most);
            }
        }
        new Run("promise 9, of none").refused(BAD, "guest 0 0").refused(BAD, "guest -1 0");
    }

    private static void promise9WhatIs0To2() {
        Run.bounds(() -> Run.garden("promise 9, what"), "guest 0 *", 0, 2);
        Run.garden("promise 9, asked").asked(12, "guest 0 0").asked(29, "guest 0 1").asked(0, "guest 0 2")
            .asked(1, "guest 1 2").asked(2, "guest 2 2");
    }

    private static void promise10PlotsAre0To15() {
        Run.bounds(() -> Run.garden("promise 10, from"), "way * 0", 0, 15);
        Run.bounds(() -> Run.garden("promise 10, to"), "way 0 *", 0, 15);
        new Run("promise 10, neither").refused(BAD, "way -1 16").refused(BAD, "way 16 16");
    }

    private static void promise10FourRowsOfFour() {
        Run open = new Run("promise 10, no HEDGE stands");
        Run shut = allHedges("promise 10, every HEDGE stands");
        for (int a = 0; a < 16; a++) {
            for (int b = 0; b < 16; b++) {
                open.due(Math.abs(a / 4 - b / 4) + Math.abs(a % 4 - b % 4), "way " + a + " " + b);
                shut.due(a == b ? 0 : NONE, "way " + a + " " + b);
            }
        }
    }

    /** Where each HEDGE is: of all it alone does not stand, and one pair of PLOTS alone is joined. */
    private static void promise10WhereEachHedgeIs() {
        for (int h = 0; h < 24; h++) {
            int a = h < 12 ? h / 3 * 4 + h % 3 : h - 12;
            int b = h < 12 ? a + 1 : a + 4;
            Run run = allHedges("promise 10, HEDGE " + h + " is between " + a + " and " + b).does("grow " + h + " 0");
            for (int c = 0; c < 16; c++) {
                run.due(c == a ? 0 : c == b ? 1 : NONE, "way " + a + " " + c);
                run.due(c == b ? 0 : c == a ? 1 : NONE, "way " + b + " " + c);
            }
        }
    }

    private static void promise10TheLongestWay() {
        Run snake = Run.told("promise 10, the snake", "hedge 12 13 14 17 18 19 20 21 22;");
        snake.asked(15, "way 0 12").asked(15, "way 12 0").asked(14, "way 0 13");
        snake.does("grow 9 1").asked(NONE, "way 0 12").asked(NONE, "way 12 0").asked(14, "way 0 13").asked(0, "way 12 12");
    }

    private static void promise10BadIsAheadOfNone() {
        allHedges("promise 10, BAD ahead of NONE").refused(BAD, "way 16 0").refused(BAD, "way 0 -1").due(NONE, "way 0 15");
    }

    private static void promise11PlotIs0To15() {
        Run.bounds(() -> Run.garden("promise 11, a PLOT"), "turn *", 0, 15);
        allHedges("promise 11, BAD without a way").refused(BAD, "turn 16").refused(BAD, "turn -1");
    }

    private static void promise11ItIfHeIsThere() {
        for (int gate : new int[] {0, 5, 15}) {
            new Run("promise 11, at THE GATE").does("open " + gate).asked(gate, "turn " + gate);
        }
    }

    private static void promise11ItIfHeCanNot() {
        Run run = allHedges("promise 11, no way");
        for (int a = 0; a < 16; a++) {
            run.asked(a, "turn " + a);
        }
        Run.told("promise 11, a way for one", "hedge 1 3 4 12 13 14;").due(0, "turn 1").due(0, "turn 0").due(2, "turn 2").due(15, "turn 15");
    }

    private static void promise11TheFirstByNumber() {
        new Run("promise 11, above ahead of the left").due(1, "turn 5").due(11, "turn 15").due(2, "turn 3").due(8, "turn 12");
        new Run("promise 11, the left ahead of below").does("open 12").due(5, "turn 6").due(2, "turn 3").due(4, "turn 0");
        new Run("promise 11, the right ahead of below").does("open 15").due(6, "turn 5").due(1, "turn 0").due(7, "turn 3");
        new Run("promise 11, above ahead of the right").does("open 3").due(5, "turn 9").due(8, "turn 12").due(11, "turn 15");
        Run.told("promise 11, not past a HEDGE", "hedge 13;").due(4, "turn 5").due(1, "turn 2").due(2, "turn 6");
    }

    // ---- what is changed

    private static void promise12HedgeIs0To23() {
        Run.bounds(() -> Run.garden("promise 12, a HEDGE"), "grow * 0", 0, 23);
        Run.bounds(() -> Run.garden("promise 12, a HEDGE, to stand"), "grow * 1", 0, 23);
    }

    private static void promise12VIs0Or1() {
        Run.bounds(() -> Run.garden("promise 12, v"), "grow 0 *", 0, 1);
        Run.bounds(() -> Run.garden("promise 12, v of one that stands"), "grow 5 *", 0, 1);
    }

    private static void promise12WhetherItDid() {
        for (int h = 0; h < 24; h++) {
            new Run("promise 12, HEDGE " + h).asked(0, "grow " + h + " 0").changed(0, "grow " + h + " 1").due(1, "rule 4")
                .asked(1, "grow " + h + " 1").due(1, "hedge " + h).changed(1, "grow " + h + " 0").due(0, "rule 4");
        }
    }

    private static void promise13ThereIsSuchAGardener() {
        Run.bounds(() -> Run.garden("promise 13, of three"), "alter * 0 2", 0, 2);
        Run.bounds(() -> fourGardeners("promise 13, of four"), "alter * 1 9", 0, 3);
        new Run("promise 13, of none").refused(BAD, "alter 0 0 0").refused(BAD, "alter -1 0 0");
        fourGardeners("promise 13, who has left").does("leave 2").refused(BAD, "alter 2 0 0").refused(BAD, "alter 3 2 9");
    }

    private static void promise13WhatIs0To2() {
        Run.bounds(() -> Run.garden("promise 13, what"), "alter 1 * 3", 0, 2);
    }

    private static void promise13VOfEach() {
        Run.bounds(() -> Run.garden("promise 13, KIND"), "alter 0 0 *", 0, 3);
        Run.bounds(() -> Run.garden("promise 13, TASTE"), "alter 0 1 *", 0, 23);
        Run.bounds(() -> Run.garden("promise 13, PACE"), "alter 0 2 *", 0, 9);
    }

    private static void promise13WhatItWas() {
        fourGardeners("promise 13, what it was").changed(3, "alter 3 0 0").changed(3, "alter 3 1 23").changed(3, "alter 3 2 9")
            .due(0, "gardener 3 0").due(23, "gardener 3 1").due(9, "gardener 3 2").due(9, "alter 3 2 0").due(0, "gardener 3 2")
            .asked(23, "alter 3 1 23").due(2, "gardener 2 0").due(2, "gardener 2 1").due(2, "gardener 2 2");
    }

    private static void promise14KindTastePace() {
        Run.bounds(() -> Run.garden("promise 14, KIND"), "hire * 0 0", 0, 3);
        Run.bounds(() -> Run.garden("promise 14, TASTE"), "hire 0 * 0", 0, 23);
        Run.bounds(() -> Run.garden("promise 14, PACE"), "hire 0 0 *", 0, 9);
    }

    private static void promise14FourAtMost() {
        new Run("promise 14, how many").changed(1, "hire 3 23 9").changed(2, "hire 0 0 0").changed(3, "hire 1 1 1")
            .changed(4, "hire 2 2 2").refused(FULL, "hire 0 0 0").refused(FULL, "hire 3 23 9")
            .due(3, "gardener 0 0").due(23, "gardener 0 1").due(9, "gardener 0 2").due(2, "gardener 3 0");
        Run.garden("promise 14, the 4th and the 5th").due(4, "hire 2 8 8").refused(FULL, "hire 2 8 8");
    }

    private static void promise14BadIsAheadOfFull() {
        fourGardeners("promise 14, BAD ahead of FULL").refused(BAD, "hire 4 0 0").refused(BAD, "hire -1 0 0")
            .refused(BAD, "hire 0 24 0").refused(BAD, "hire 0 -1 0").refused(BAD, "hire 0 0 10").refused(BAD, "hire 0 0 -1");
    }

    private static void promise14RoomAgain() {
        fourGardeners("promise 14, room again").does("leave 3").due(4, "hire 1 20 6").due(1, "gardener 3 0")
            .due(20, "gardener 3 1").due(6, "gardener 3 2").refused(FULL, "hire 0 0 0");
    }

    private static void promise15NIs0ToHowManyThereAre() {
        Run.bounds(() -> new Run("promise 15, of none"), "leave *", 0, 0);
        for (int n = 1; n <= 4; n++) {
            int most = n;
            Run.bounds(() -> fourGardeners("promise 15, of " + most).does("leave " + most), "leave *", 0, most);
        }
        Run.bounds(() -> Run.garden("promise 15, of the garden's"), "leave *", 0, 3);
    }

    private static void promise15HowManyThereWere() {
        fourGardeners("promise 15, how many").asked(4, "leave 4").changed(4, "leave 3").changed(3, "leave 1").due(1, "rule 0")
            .due(0, "gardener 0 0").refused(BAD, "leave 2").changed(1, "leave 0").asked(0, "leave 0").refused(BAD, "leave 1");
    }

    private static void promise15WhoIsLeft() {
        fourGardeners("promise 15, the first are left").does("leave 2").due(0, "gardener 0 0").due(1, "gardener 1 0")
            .due(BAD, "gardener 2 0").due(1, "count 5");
        Run.garden("promise 15, LAST and DAY stay").does("leave 0").due(8, "rule 7").due(4, "rule 2");
    }

    private static void promise16PlotAndFood() {
        Run.bounds(() -> Run.garden("promise 16, a PLOT"), "come * 0", 0, 15);
        Run.bounds(() -> Run.garden("promise 16, FOOD"), "come 0 *", 0, 60);
    }

    private static void promise16FourAtMost() {
        new Run("promise 16, how many").changed(1, "come 15 60").changed(2, "come 0 0").changed(3, "come 1 1")
            .changed(4, "come 2 2").refused(FULL, "come 0 0").refused(FULL, "come 15 60")
            .due(15, "guest 0 0").due(60, "guest 0 1").due(2, "guest 3 0").due(2, "guest 3 1").due(0, "guest 3 2");
        Run.garden("promise 16, the 4th and the 5th").due(4, "come 3 3").refused(FULL, "come 3 3");
        new Run("promise 16, who is OUT or LOST has his place").does("come 0 1", "come 0 1", "come 0 0", "come 0 0", "days 1")
            .refused(FULL, "come 0 0");
    }

    private static void promise16BadIsAheadOfFull() {
        fourGuests("promise 16, BAD ahead of FULL").refused(BAD, "come 16 0").refused(BAD, "come -1 0")
            .refused(BAD, "come 0 61").refused(BAD, "come 0 -1");
    }

    private static void promise16HeIsIn() {
        new Run("promise 16, IN, at THE GATE too").due(1, "come 0 0").due(0, "guest 0 2").due(2, "come 0 60").due(0, "guest 1 2");
        Run.told("promise 16, in the place of one who was OUT", "guest 0 1;").does("days 1").due(1, "guest 0 2").due(0, "text")
            .due(1, "come 5 5").due(0, "guest 0 2").due(5, "guest 0 0");
    }

    private static void promise17ThereIsSuchAGuest() {
        Run.bounds(() -> Run.garden("promise 17, of three"), "move * 8", 0, 2);
        Run.bounds(() -> fourGuests("promise 17, of four"), "move * 8", 0, 3);
        new Run("promise 17, of none").refused(BAD, "move 0 0").refused(BAD, "move -1 0");
    }

    private static void promise17PlotIs0To15() {
        Run.bounds(() -> Run.garden("promise 17, who is IN"), "move 0 *", 0, 15);
        Run.bounds(() -> Run.garden("promise 17, who is OUT"), "move 1 *", 0, 15);
        Run.bounds(() -> Run.garden("promise 17, who is LOST"), "move 2 *", 0, 15);
    }

    private static void promise17WhateverHeWas() {
        Run.garden("promise 17, who is IN").changed(12, "move 0 15").due(15, "guest 0 0").due(0, "guest 0 2").due(29, "guest 0 1");
        Run.garden("promise 17, who is OUT").changed(6, "move 1 6").due(6, "guest 1 0").due(0, "guest 1 2").due(3, "guest 1 1");
        Run.garden("promise 17, who is LOST").changed(9, "move 2 0").due(0, "guest 2 0").due(0, "guest 2 2").due(0, "guest 2 1");
        Run.garden("promise 17, where he is").asked(12, "move 0 12");
        new Run("promise 17, to THE GATE, IN until the DAY").does("come 9 1").due(9, "move 0 0").due(0, "guest 0 2")
            .due(1, "days 1").due(1, "guest 0 2");
    }

    private static void promise18ThereIsSuchAGuest() {
        Run.bounds(() -> Run.garden("promise 18, of three"), "bread * 8", 0, 2);
        Run.bounds(() -> fourGuests("promise 18, of four"), "bread * 8", 0, 3);
        new Run("promise 18, of none").refused(BAD, "bread 0 0").refused(BAD, "bread -1 0");
    }

    private static void promise18FoodIs0To60() {
        Run.bounds(() -> Run.garden("promise 18, FOOD"), "bread 0 *", 0, 60);
        Run.garden("promise 18, what it was").changed(29, "bread 0 60").asked(60, "bread 0 60").changed(60, "bread 0 0").due(0, "guest 0 1");
    }

    private static void promise18HeStaysWhatHeIs() {
        Run.garden("promise 18, OUT, LOST").due(3, "bread 1 60").due(1, "guest 1 2").due(0, "bread 2 60").due(2, "guest 2 2")
            .due(60, "guest 2 1").does("days 1").due(2, "guest 2 2").due(60, "guest 2 1").due(60, "guest 1 1");
    }

    private static void promise19PlotIs0To15() {
        Run.bounds(() -> Run.garden("promise 19, a PLOT"), "open *", 0, 15);
        Run.garden("promise 19, what it was").asked(11, "open 11").changed(11, "open 0").due(0, "rule 3").changed(0, "open 15").due(15, "rule 3");
    }

    private static void promise19WhoIsOutStaysOut() {
        Run.garden("promise 19, OUT").does("open 0").due(2, "rule 5").does("days 1").due(2, "rule 5");
    }

    public static void main(String[] args) throws ReflectiveOperationException {
        Run.all(BoundsMazeTest.class);
    }
}
