/** Promises 40 to 46: IMAGES, SHEETS and the FAULTS of the machine, and how many there are. */
public final class BoundsSheetTest {
    private static final int BAD = Run.BAD, STATE = Run.STATE, NONE = Run.NONE;

    /** SHEET k of a lane with these CELLS. */
    private static Run laid(Run run, int k, int lane, int... cells) {
        run.does("sheet " + k + " " + lane + " " + cells.length);
        for (int i = 0; i < cells.length; i++) {
            run.does("lay " + k + " " + i + " " + cells[i]);
        }
        return run;
    }

    private static int[] twentyHedges() {
        int[] cells = new int[40];
        for (int i = 0; i < 20; i++) {
            cells[2 * i] = i;
            cells[2 * i + 1] = 1;
        }
        return cells;
    }

    // ---- images

    private static void promise40ImageIs0Or1() {
        Run.bounds(() -> Run.garden("promise 40, an IMAGE"), "keep *", 0, 1);
        Run.bounds(() -> new Run("promise 40, the first IMAGE"), "keep *", 0, 1);
    }

    private static void promise40WhetherThereWasOne() {
        new Run("promise 40, whether").changed(0, "keep 0").due(1, "count 1").asked(1, "keep 0").due(1, "count 1").changed(0, "keep 1")
            .due(2, "count 1").asked(1, "keep 1").due(2, "count 1");
        new Run("promise 40, gone by a text").does("keep 0", "keep 1").due(0, "text").due(0, "keep 0").due(0, "keep 1");
        new Run("promise 40, not gone by a refused text").does("keep 0").fed("@").due(-10, "text").due(1, "keep 0").due(0, "keep 1");
    }

    private static void promise40TheLatestIsKept() {
        new Run("promise 40, the latest").does("open 3", "keep 0", "open 4", "keep 0", "open 5", "back 0").due(4, "rule 3");
        new Run("promise 40, each its own").does("open 3", "keep 0", "open 4", "keep 1", "open 5", "back 0").due(3, "rule 3")
            .does("back 1").due(4, "rule 3").does("back 0").due(3, "rule 3");
    }

    private static void promise41ImageIs0Or1() {
        Run.bounds(() -> Run.garden("promise 41, an IMAGE"), "back *", 0, 1);
        new Run("promise 41, BAD ahead of STATE").refused(BAD, "back 2").refused(BAD, "back -1");
    }

    private static void promise41StateIsThereIsNone() {
        new Run("promise 41, none").refused(STATE, "back 0").refused(STATE, "back 1");
        new Run("promise 41, one").does("keep 0").refused(STATE, "back 1").asked(0, "back 0");
        new Run("promise 41, the other").does("keep 1").refused(STATE, "back 0").asked(0, "back 1");
        Run.garden("promise 41, gone by a text").due(1, "text").refused(STATE, "back 0").refused(STATE, "back 1").due(13, "rule 3");
        Run.garden("promise 41, not gone by a refused text").fed("@").due(-18, "text").due(2, "back 0").due(3, "back 1");
    }

    private static void promise41TheDay() {
        Run.garden("promise 41, DAY").changed(2, "back 0").due(2, "rule 2").asked(2, "back 0").changed(3, "back 1").due(3, "rule 2");
        Run late = new Run("promise 41, DAY 999").does("keep 1");
        for (int i = 0; i < 33; i++) {
            late.does("days 30");
        }
        late.does("days 9", "keep 0").due(0, "back 1").due(999, "back 0").due(Run.FULL, "days 1").due(0, "back 1").due(0, "days 1");
    }

    private static void promise41AllThatAnImageIs() {
        Run run = Run.garden("promise 41, all").does("back 0");
        int[] rules = {3, 3, 2, 6, 3, 2, 4, 3};
        for (int what = 0; what < rules.length; what++) {
            run.due(rules[what], "rule " + what);
        }
        run.due(1, "hedge 2").due(1, "hedge 5").due(1, "hedge 20").due(8, "gardener 0 1").due(9, "gardener 1 1").due(11, "gardener 2 1")
            .due(10, "guest 0 0").due(18, "guest 0 1").due(0, "guest 0 2").due(1, "guest 1 2").due(2, "guest 2 2");
        new Run("promise 41, who came later is gone").does("keep 0", "hire 0 0 0", "come 0 0", "back 0").due(0, "rule 0").due(0, "rule 1")
            .due(BAD, "gardener 0 0").due(BAD, "guest 0 0");
        Run.garden("promise 41, who left is there again").does("leave 0", "back 0").due(3, "rule 0").due(3, "gardener 2 0");
        new Run("promise 41, LAST is none again").does("keep 0", "hire 0 0 0", "days 1").due(0, "rule 7").does("back 0").due(NONE, "rule 7");
    }

    private static void promise41WhatNoImageIs() {
        Run.garden("promise 41, SEEN, THE TAPE, SHEETS, FAULTS stay").does("back 0").due(2, "count 0").due(2, "count 1").due(8, "count 2")
            .due(6, "count 3").due(1, "fault").due(1, "torn");
    }

    // ---- sheet, lay

    private static void promise42KAndLane() {
        Run.bounds(() -> Run.garden("promise 42, a SHEET"), "sheet * 0 5", 0, 3);
        Run.bounds(() -> Run.garden("promise 42, a lane"), "sheet 0 * 5", 0, 2);
    }

    private static void promise42NIs0To40() {
        Run.garden("promise 42, n").changed(1, "sheet 0 0 0").due(0, "count 3").changed(1, "sheet 0 0 40").due(40, "count 3")
            .refused(BAD, "sheet 0 0 41").refused(BAD, "sheet 0 0 max").due(40, "count 3");
        for (int lane = 0; lane <= 2; lane++) {
            new Run("promise 42, 40 CELLS of lane " + lane).due(1, "sheet 3 " + lane + " 40").due(1, "lay 3 39 1").refused(-12, "lay 3 40 1");
            new Run("promise 42, no CELLS of lane " + lane).due(1, "sheet 3 " + lane + " 0").refused(-12, "lay 3 0 1");
        }
    }

    private static void promise42SizeIsBelow0() {
        Run.garden("promise 42, SIZE").refused(-14, "sheet 0 0 -1").refused(-14, "sheet 0 0 min").refused(-14, "sheet 3 2 -1").due(6, "count 3");
    }

    private static void promise42BadIsAheadOfSize() {
        Run.garden("promise 42, BAD ahead of SIZE").refused(BAD, "sheet 4 0 -1").refused(BAD, "sheet -1 0 -1").refused(BAD, "sheet 0 3 -1")
            .refused(BAD, "sheet 0 -1 -1").refused(BAD, "sheet 4 3 41");
    }

    private static void promise42ANewRowOfCells0() {
        Run run = laid(new Run("promise 42, a new row"), 1, 0, 9, 1, 8, 1);
        run.does("grow 0 1", "sheet 1 0 4").due(2, "read 1 0 0 2").due(0, "hedge 0").due(0, "hedge 9").due(0, "rule 4");
        Run longer = laid(new Run("promise 42, shorter, then longer"), 1, 0, 9, 1, 8, 1).does("sheet 1 0 1", "sheet 1 0 4");
        longer.due(2, "read 1 0 0 2").due(0, "rule 4");
        laid(new Run("promise 42, another lane"), 1, 0, 9, 1).does("sheet 1 2 2").due(0, "read 1 0 0 1").due(3, "torn").due(1, "read 1 2 0 1");
        laid(laid(new Run("promise 42, the others stay"), 0, 0, 9, 1), 3, 1, 8, 1).does("sheet 1 0 40", "sheet 2 2 40").due(1, "read 0 0 0 1")
            .due(1, "read 3 1 0 1").due(1, "hedge 9").due(1, "hedge 8");
    }

    private static void promise43SheetIs0To3() {
        Run.bounds(() -> Run.garden("promise 43, a SHEET"), "lay * 0 1", 0, 3);
        new Run("promise 43, BAD ahead of NULL and INDEX").refused(BAD, "lay 4 -1 0").refused(BAD, "lay -1 99 0");
    }

    private static void promise43NullIsNothing() {
        new Run("promise 43, NULL").refused(-11, "lay 0 0 0").refused(-11, "lay 3 0 0");
        new Run("promise 43, NULL ahead of INDEX").refused(-11, "lay 0 -1 0").refused(-11, "lay 0 40 0").refused(-11, "lay 0 max 0");
        new Run("promise 43, NULL behind a refused sheet()").does("grow 0 1").due(-14, "sheet 0 0 -1").due(BAD, "sheet 0 0 41").refused(-11, "lay 0 0 0");
    }

    private static void promise43IndexIs0ToTheLast() {
        for (int n : new int[] {1, 6, 40}) {
            Run run = new Run("promise 43, of " + n).does("sheet 2 1 " + n);
            run.due(1, "lay 2 0 7").due(1, "lay 2 " + (n - 1) + " 7").refused(-12, "lay 2 -1 7").refused(-12, "lay 2 " + n + " 7")
                .refused(-12, "lay 2 min 7").refused(-12, "lay 2 max 7");
        }
        new Run("promise 43, of none").does("sheet 2 1 0").refused(-12, "lay 2 0 7").refused(-12, "lay 2 -1 7");
        Run.garden("promise 43, in the garden").refused(-12, "lay 0 6 1").refused(-12, "lay 1 4 1").refused(-12, "lay 2 7 1").refused(-12, "lay 2 -1 1");
    }

    /** A CELL keeps its lane's lowest bits, with a sign: it tells a HEDGE if those are 0 to 23. */
    private static void promise43LowestBitsOfAHedge() {
        int[] values = {0, 23, 24, -1, 127, 128, 255, 256, 279, 280, -256, -233, -232, 32767, 32768, 65535, 65536, 65559, 65560, -65536, -65513,
            Integer.MIN_VALUE, Integer.MIN_VALUE + 23, Integer.MIN_VALUE + 24, Integer.MAX_VALUE};
        for (int v : values) {
            int[] kept = {(byte) v, (short) v, v};
            for (int lane = 0; lane <= 2; lane++) {
                Run run = laid(new Run("promise 43, " + v + " as a HEDGE of lane " + lane), 0, lane, v, 1);
                boolean hedge = kept[lane] >= 0 && kept[lane] <= 23;
                run.due(hedge ? 1 : -20, "read 0 " + lane + " 0 1").due(hedge ? 1 : 0, "rule 4");
                if (hedge) {
                    run.due(1, "hedge " + kept[lane]);
                }
            }
        }
    }

    private static void promise43LowestBitsOf0Or1() {
        int[] values = {0, 1, 2, -1, 255, 256, 257, 258, -255, 65535, 65536, 65537, 65538, -65535, Integer.MIN_VALUE, Integer.MIN_VALUE + 1,
            Integer.MAX_VALUE};
        for (int v : values) {
            int[] kept = {(byte) v, (short) v, v};
            for (int lane = 0; lane <= 2; lane++) {
                Run run = laid(new Run("promise 43, " + v + " as 0 or 1 of lane " + lane), 0, lane, 5, v);
                boolean bit = kept[lane] == 0 || kept[lane] == 1;
                run.due(bit ? 1 : -20, "read 0 " + lane + " 0 1").due(bit ? kept[lane] : 0, "hedge 5");
            }
        }
    }

    // ---- read, torn

    private static void promise44KLaneAndN() {
        Run.bounds(() -> Run.garden("promise 44, a SHEET"), "read * 0 0 1", 0, 3);
        Run.bounds(() -> Run.garden("promise 44, a lane"), "read 0 * 0 1", 0, 2);
        Run.bounds(() -> Run.garden("promise 44, n"), "read 0 0 0 *", 0, 20);
        Run.bounds(() -> Run.garden("promise 44, n of nothing"), "read 3 0 0 *", 0, 20);
        Run.garden("promise 44, BAD whatever f is").refused(BAD, "read 4 0 min 1").refused(BAD, "read 0 3 max 1").refused(BAD, "read 0 0 -1 21");
    }

    private static void promise44Of0To20() {
        Run run = laid(new Run("promise 44, 20 of 40 CELLS"), 1, 1, twentyHedges());
        run.due(0, "read 1 1 0 0").due(0, "rule 4").due(1, "read 1 1 0 1").due(1, "rule 4").due(19, "read 1 1 0 19").due(19, "rule 4")
            .due(20, "read 1 1 0 20").due(20, "rule 4").due(0, "torn");
    }

    private static void promise44TwoCellsFromFOn() {
        Run run = new Run("promise 44, f").does("sheet 0 2 40");
        String[] calls = {"0 20", "1 19", "1 20", "2 19", "2 20", "38 1", "38 2", "38 20", "39 1", "39 20", "40 1", "-1 1", "-2 1", "-2 20",
            "min 20", "max 20", "max 1", "min 1", "2147483646 20", "-40 20"};
        int[] came = {20, 19, 19, 19, 19, 1, 1, 1, 0, 0, 0, 0, 0, 0, 0, 0, 0, 0, 0, 0};
        int[] torn = {0, 0, 2, 0, 2, 0, 2, 2, 2, 2, 2, 2, 2, 2, 2, 2, 2, 2, 2, 2};
        for (int i = 0; i < calls.length; i++) {
            run.due(came[i], "read 0 2 " + calls[i]).due(torn[i], "torn");
        }
        Run odd = laid(new Run("promise 44, from an odd CELL"), 0, 0, 24, 7, 1, 9, 1);
        odd.due(2, "read 0 0 1 2").due(1, "hedge 7").due(1, "hedge 9").due(2, "rule 4").due(-20, "read 0 0 0 1");
    }

    private static void promise44ThoseThatWereWholeAheadCame() {
        Run run = laid(new Run("promise 44, five CELLS"), 1, 1, 2, 1, 9, 1, 24);
        run.due(2, "read 1 1 0 3").due(2, "torn").due(1, "hedge 2").due(1, "hedge 9").due(2, "rule 4");
        laid(new Run("promise 44, one CELL"), 1, 1, 5).asked(0, "read 1 1 0 0").due(0, "read 1 1 0 1").due(2, "torn").due(0, "rule 4");
        laid(new Run("promise 44, one CELL that is no HEDGE"), 1, 1, 24).due(0, "read 1 1 0 1").due(2, "torn");
        laid(new Run("promise 44, two CELLS"), 1, 1, 5, 1).due(1, "read 1 1 0 1").due(0, "torn").due(1, "read 1 1 0 2").due(2, "torn");
        new Run("promise 44, no CELLS").does("sheet 1 1 0").due(0, "read 1 1 0 1").due(2, "torn").due(0, "read 1 1 0 0").due(0, "torn");
    }

    private static void promise44NullAndCast() {
        for (int lane = 0; lane <= 2; lane++) {
            new Run("promise 44, NULL as lane " + lane).due(0, "read 2 " + lane + " 0 1").due(1, "torn").due(0, "read 2 " + lane + " -1 20").due(1, "torn");
            for (int other = 0; other <= 2; other++) {
                Run run = laid(new Run("promise 44, lane " + lane + " as " + other), 2, lane, 5, 1);
                boolean same = lane == other;
                run.due(same ? 1 : 0, "read 2 " + other + " 0 1").due(same ? 0 : 3, "torn").due(same ? 1 : 0, "rule 4");
                run.due(0, "read 2 " + other + " 9 1").due(same ? 2 : 3, "torn");
            }
        }
        new Run("promise 44, CAST of no CELLS").does("sheet 2 0 0").due(0, "read 2 1 0 1").due(3, "torn");
    }

    private static void promise44OfN0NoFault() {
        Run.garden("promise 44, n 0 of nothing").due(1, "torn").due(0, "read 3 0 0 0").due(0, "torn").due(6, "rule 4");
        Run.garden("promise 44, n 0 of another lane").due(1, "torn").due(0, "read 0 2 0 0").due(0, "torn");
        Run.garden("promise 44, n 0 from anywhere").due(1, "torn").due(0, "read 0 0 -1 0").due(0, "torn").due(0, "read 0 0 max 0").due(0, "torn");
    }

    private static void promise44WhatGrowRefuses() {
        int[][] wrong = {{24, 0}, {24, 1}, {-1, 0}, {5, 2}, {5, -1}, {24, 2}, {127, 0}, {-128, 0}};
        for (int[] pair : wrong) {
            laid(Run.garden("promise 44, " + pair[0] + " " + pair[1]), 3, 0, 11, 1, pair[0], pair[1], 12, 1)
                .refused(-21, "read 3 0 0 2").refused(-21, "read 3 0 0 3").refused(-20, "read 3 0 2 1").refused(-21, "read 3 0 0 20");
        }
        int[][] right = {{0, 0}, {0, 1}, {23, 0}, {23, 1}};
        for (int[] pair : right) {
            laid(Run.garden("promise 44, " + pair[0] + " " + pair[1]), 3, 0, pair[0], pair[1]).due(1, "read 3 0 0 1").due(pair[1], "hedge " + pair[0]);
        }
    }

    private static void promise44The20thIsRefused() {
        int[] cells = twentyHedges();
        cells[38] = 24;
        laid(new Run("promise 44, the 20th"), 0, 0, cells).due(-39, "read 0 0 0 20").due(0, "rule 4").due(19, "read 0 0 0 19").due(19, "rule 4");
        int[] first = twentyHedges();
        first[0] = 24;
        laid(new Run("promise 44, the first"), 0, 0, first).due(-20, "read 0 0 0 20").due(0, "rule 4").due(19, "read 0 0 2 19").due(19, "rule 4");
    }

    private static void promise44TheFirstMet() {
        laid(new Run("promise 44, grow() ahead of the machine"), 0, 0, 1, 1, 24, 1, 5).refused(-21, "read 0 0 0 3").due(0, "torn").due(0, "rule 4");
        laid(new Run("promise 44, the machine ahead of grow()"), 0, 0, 1, 1, 24).due(1, "read 0 0 0 3").due(2, "torn").due(1, "hedge 1");
        laid(new Run("promise 44, of two the first"), 0, 0, 1, 1, 24, 1, 25, 1).refused(-21, "read 0 0 0 3").refused(-20, "read 0 0 4 1");
    }

    private static void promise44OneBehindAnother() {
        laid(new Run("promise 44, the same HEDGE"), 0, 0, 7, 1, 7, 0).due(2, "read 0 0 0 2").due(0, "hedge 7").due(1, "read 0 0 0 1").due(1, "hedge 7");
        laid(new Run("promise 44, LAST is no matter"), 0, 0, 7, 1).due(1, "read 0 0 0 1").due(NONE, "rule 7").due(0, "rule 2");
    }

    private static void promise45OfTheLatestReadThatAnswered0OrMore() {
        Run run = laid(new Run("promise 45, torn"), 0, 0, 5, 1, 24, 1, 6).due(0, "torn");
        run.due(BAD, "read 4 0 0 1").due(0, "torn").due(-21, "read 0 0 0 2").due(0, "torn").due(0, "read 1 0 0 1").due(1, "torn");
        run.refused(BAD, "read 4 0 0 1").refused(BAD, "read 0 3 0 1").refused(BAD, "read 0 0 0 21").refused(BAD, "read 0 0 0 -1").due(1, "torn");
        run.refused(-21, "read 0 0 0 2").refused(-20, "read 0 0 2 2").due(1, "torn").due(0, "read 0 0 4 1").due(2, "torn");
        run.refused(-20, "read 0 0 2 1").due(2, "torn").due(0, "read 0 1 0 1").due(3, "torn").due(1, "read 0 0 0 1").asked(0, "torn");
    }

    private static void promise45OtherCallsLeaveIt() {
        Run.garden("promise 45, lay(), sheet()").due(-12, "lay 0 6 0").due(1, "torn").due(-14, "sheet 0 0 -1").due(1, "torn").does("sheet 3 0 4").due(1, "torn");
        Run.garden("promise 45, text(), back()").due(1, "text").due(1, "torn").does("keep 0", "back 0").due(1, "torn");
    }

    // ---- count

    private static void promise46WhatIs0To5() {
        Run.bounds(() -> Run.garden("promise 46, what"), "count *", 0, 5);
        Run.garden("promise 46, asked").asked(2, "count 0").asked(2, "count 1").asked(8, "count 2").asked(6, "count 3").asked(32, "count 4").asked(16, "count 5");
    }

    private static void promise46EmptyAndFull() {
        int[] empty = {0, 0, 0, NONE, 0, 0};
        Run none = new Run("promise 46, empty");
        for (int what = 0; what < empty.length; what++) {
            none.asked(empty[what], "count " + what);
        }
        Run full = new Run("promise 46, full").does("keep 0", "keep 1", "sheet 0 2 40").fed(" ".repeat(160));
        for (int i = 0; i < 6; i++) {
            full.does("see 0 0 0");
        }
        for (int i = 0; i < 4; i++) {
            full.does("come 0 60", "hire 0 0 9");
        }
        full.due(6, "count 0").due(2, "count 1").due(160, "count 2").due(40, "count 3").due(240, "count 4").due(36, "count 5");
    }

    private static void promise46CellsOfSheet0() {
        new Run("promise 46, SHEET 0").due(NONE, "count 3").does("sheet 1 0 5").due(NONE, "count 3").does("sheet 0 0 0").due(0, "count 3")
            .does("sheet 0 2 1").due(1, "count 3").does("sheet 3 0 9").due(1, "count 3");
    }

    private static void promise46OfAll() {
        Run.told("promise 46, FOOD of who is OUT or LOST too", "guest 0 9; guest 5 0; guest 15 7;").due(16, "count 4").does("days 1").due(14, "count 4")
            .does("bread 1 60").due(74, "count 4");
        Run.told("promise 46, PACES of who is there", "plain 0 9; plain 0 8; plain 0 7; plain 0 6;").due(30, "count 5").does("leave 3").due(24, "count 5")
            .does("leave 0").due(0, "count 5");
    }

    public static void main(String[] args) throws ReflectiveOperationException {
        Run.all(BoundsSheetTest.class);
    }
}
