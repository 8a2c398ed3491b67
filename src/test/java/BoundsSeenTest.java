/** Promises 34 to 38: how much is SEEN, behind how many DAYS, which KINDS and TASTES are left, none and all. */
public final class BoundsSeenTest {
    private static final int BAD = Run.BAD, FULL = Run.FULL, NONE = Run.NONE;
    private static final int ALL_KINDS = 15, ALL_TASTES = 0xFFFFFF;
    /** The fourth comes on the DAYS 3, 7, 11, 15, 19 to the HEDGES 0 to 4; the others go to HEDGE 23, which never stands. */
    private static final String FOURTH = "wide 0 0; wide 0 0; wide 0 0; plain 0 1;";

    private static Run seen(Run run, int times) {
        for (int i = 0; i < times; i++) {
            run.does("see 0 0 0");
        }
        return run;
    }

    // ---- see, forget

    private static void promise34DaysHedgeAndV() {
        Run.bounds(() -> Run.garden("promise 34, n"), "see * 0 0", 0, 20);
        Run.bounds(() -> Run.garden("promise 34, a HEDGE"), "see 0 * 0", 0, 23);
        Run.bounds(() -> Run.garden("promise 34, v"), "see 0 0 *", 0, 1);
    }

    private static void promise34SixAtMost() {
        Run run = new Run("promise 34, how many");
        for (int n = 1; n <= 6; n++) {
            run.changed(n, "see 20 23 1").due(n, "count 0");
        }
        run.refused(FULL, "see 20 23 1").refused(FULL, "see 0 0 0").due(6, "count 0");
        seen(Run.garden("promise 34, the 6th and the 7th"), 3).due(6, "see 0 0 1").refused(FULL, "see 0 0 0");
    }

    private static void promise34BadIsAheadOfFull() {
        seen(new Run("promise 34, BAD ahead of FULL"), 6).refused(BAD, "see 21 0 0").refused(BAD, "see -1 0 0").refused(BAD, "see 0 24 0")
            .refused(BAD, "see 0 -1 0").refused(BAD, "see 0 0 2").refused(BAD, "see 0 0 -1");
    }

    private static void promise34RoomAgain() {
        seen(new Run("promise 34, room by forget()"), 6).due(FULL, "see 1 1 1").due(6, "forget 5").due(6, "see 1 1 1").due(FULL, "see 1 1 1");
        seen(new Run("promise 34, room by text()"), 6).due(0, "text").due(1, "see 1 1 1");
        seen(new Run("promise 34, none by a refused text()"), 6).fed("@").due(-10, "text").due(FULL, "see 1 1 1");
        seen(new Run("promise 34, none by back()"), 5).does("keep 0", "see 1 1 1", "back 0").due(FULL, "see 1 1 1").due(6, "count 0");
    }

    private static void promise34AllOfSixCount() {
        for (int wrong = 0; wrong < 6; wrong++) {
            Run run = Run.told("promise 34, the " + wrong + "th alone is not so", "plain 3 5;");
            for (int i = 0; i < 6; i++) {
                run.does(i == wrong ? "see 0 9 1" : "see 1 3 1");
            }
            run.asked(0, "kinds 0").asked(0, "tastes 0").due(6, "forget " + wrong).due(wrong == 0 ? ALL_KINDS : 7, "kinds 0");
        }
    }

    private static void promise35NIs0ToHowManyThereAre() {
        Run.bounds(() -> new Run("promise 35, of none"), "forget *", 0, 0);
        Run.bounds(() -> Run.garden("promise 35, of two"), "forget *", 0, 2);
        Run.bounds(() -> seen(new Run("promise 35, of six"), 6), "forget *", 0, 6);
    }

    private static void promise35HowManyThereWere() {
        seen(new Run("promise 35, how many"), 6).asked(6, "forget 6").changed(6, "forget 5").changed(5, "forget 1").refused(BAD, "forget 2")
            .changed(1, "forget 0").asked(0, "forget 0").refused(BAD, "forget 1").due(0, "count 0");
    }

    private static void promise35TheFirstAreLeft() {
        Run.told("promise 35, the first", "plain 3 5;").does("see 1 3 1", "see 0 9 1").due(0, "kinds 0").does("forget 1").due(7, "kinds 0")
            .does("forget 0").due(ALL_KINDS, "kinds 0");
    }

    // ---- kinds, tastes

    private static void promise36ThereIsSuchAGardener() {
        Run.bounds(() -> Run.garden("promise 36, of three"), "kinds *", 0, 2);
        Run.bounds(() -> Run.told("promise 36, of four", FOURTH), "kinds *", 0, 3);
        new Run("promise 36, of none").refused(BAD, "kinds 0").refused(BAD, "kinds -1");
        Run.garden("promise 36, who has left").does("leave 1").refused(BAD, "kinds 1");
    }

    private static void promise36AllAndNone() {
        Run.told("promise 36, nothing is SEEN", "plain 3 5;").asked(ALL_KINDS, "kinds 0");
        Run.told("promise 36, what can not be", "plain 3 5;").does("see 1 3 1", "see 1 3 0").asked(0, "kinds 0").asked(0, "tastes 0");
        Run.told("promise 36, each alone", "plain 3 0; hedge 20;").does("see 1 20 0").asked(8, "kinds 0").does("forget 0", "see 2 3 1")
            .asked(4, "kinds 0").does("forget 0", "see 2 3 0", "see 2 20 1").asked(3, "kinds 0");
    }

    private static void promise36Behind0To20Days() {
        Run.told("promise 36, now, as it is", "plain 3 5;").does("see 0 3 0").asked(ALL_KINDS, "kinds 0");
        Run.told("promise 36, now, as it is not", "plain 3 5;").does("see 0 3 1").asked(0, "kinds 0");
        Run.told("promise 36, behind 20", FOURTH).does("see 20 4 1").asked(5, "kinds 3");
        Run.told("promise 36, behind 19", FOURTH).does("see 19 4 1").asked(0, "kinds 3");
        Run.told("promise 36, behind 19, asked on the next DAY", FOURTH).does("see 19 4 1", "days 1").asked(5, "kinds 3");
        Run.told("promise 36, behind 1", "close 0 0;").does("see 1 0 1").asked(7, "kinds 0").does("see 0 0 1").asked(0, "kinds 0")
            .does("days 1").asked(12, "kinds 0");
    }

    private static void promise37ThereIsSuchAGardener() {
        Run.bounds(() -> Run.garden("promise 37, of three"), "tastes *", 0, 2);
        Run.bounds(() -> Run.told("promise 37, of four", FOURTH), "tastes *", 0, 3);
        new Run("promise 37, of none").refused(BAD, "tastes 0").refused(BAD, "tastes -1");
        Run.garden("promise 37, who has left").does("leave 1").refused(BAD, "tastes 1");
    }

    private static void promise37Bits0To23() {
        Run.told("promise 37, nothing is SEEN", "plain 3 5;").asked(ALL_TASTES, "tastes 0");
        for (int h : new int[] {0, 1, 22, 23}) {
            Run.told("promise 37, plain at " + h, "plain 9 0;").does("see 1 " + h + " 1").asked(1 << h, "tastes 0");
            Run.told("promise 37, wide at " + h, "wide 9 0; hedge " + h + ";").does("see 1 " + h + " 0").asked(1 << 23 - h, "tastes 0");
            Run.told("promise 37, not at " + h, "close 9 0;").does("see 1 " + h + " 0").asked(ALL_TASTES - (1 << h), "tastes 0");
        }
        Run.told("promise 37, none", "plain 9 0;").does("see 1 0 1", "see 1 1 1").asked(0, "tastes 0");
    }

    private static void promise37Behind0To20Days() {
        Run.told("promise 37, now", "plain 9 0;").does("see 0 9 0").asked(ALL_TASTES, "tastes 0").does("see 0 9 1").asked(0, "tastes 0");
        Run.told("promise 37, behind 20", FOURTH).does("see 20 0 1").asked(0xF00001, "tastes 3");
        Run.told("promise 37, behind 19", FOURTH).does("see 19 0 1").asked(0xE00001, "tastes 3");
        Run.told("promise 37, from when it is asked", FOURTH).does("see 19 0 1", "days 1").asked(0xF00001, "tastes 3");
        Run.told("promise 37, TASTE now, not then", "plain 9 1;").does("days 1", "see 1 10 1").asked(1 << 10, "tastes 0");
    }

    private static void promise37ByLastThatIs() {
        Run.told("promise 37, spite has a LAST", "plain 9 0; spite 9 0;").does("see 2 9 0").asked(ALL_TASTES, "tastes 1");
        Run.told("promise 37, spite has none", "spite 9 0;").does("see 1 23 1").asked(1 << 23, "tastes 0").does("days 1").asked(0, "tastes 0");
    }

    // ---- ask

    private static void promise38GardenerAndWhat() {
        Run.bounds(() -> Run.garden("promise 38, a GARDENER"), "ask * 0", 0, 2);
        Run.bounds(() -> Run.garden("promise 38, a GARDENER, how many"), "ask * 1", 0, 2);
        Run.bounds(() -> Run.garden("promise 38, what"), "ask 0 *", 0, 1);
        new Run("promise 38, of none").refused(BAD, "ask 0 0").refused(BAD, "ask -1 0");
        Run.garden("promise 38, who has left").does("leave 1").refused(BAD, "ask 1 0");
    }

    private static void promise38Behind20DaysAtMost() {
        Run.told("promise 38, the 20th DAY", FOURTH).asked(2000, "ask 3 0").asked(19, "ask 3 1");
        Run.told("promise 38, not the 21st", "plain 0 1; wide 0 0; wide 0 0; wide 0 0;").asked(1700, "ask 0 0").asked(19, "ask 0 1");
        Run.told("promise 38, the first DAY", "plain 0 0;").asked(100, "ask 0 0").asked(23, "ask 0 1");
    }

    private static void promise38TheFirstAndTheLastHedge() {
        Run.told("promise 38, of several the least", "close 0 0;").asked(100, "ask 0 0").asked(23, "ask 0 1");
        Run.told("promise 38, HEDGE 23", "close 0 0; hedge 0 1 2 3 4 5 6 7 8 9 10 11 12 13 14 15 16 17 18 19 20 21 22;")
            .asked(123, "ask 0 0").asked(23, "ask 0 1");
        Run.told("promise 38, HEDGE 0", "wide 0 0; hedge 0;").asked(100, "ask 0 0").asked(23, "ask 0 1");
    }

    private static void promise38AllTwoOneNone() {
        Run.told("promise 38, the half", "plain 0 1;").asked(1200, "ask 0 0").asked(12, "ask 0 1");
        // What is SEEN leaves the TASTES 5 and 6, whose second HEDGES are 6 and 7.
        Run two = Run.told("promise 38, two are left", "plain 0 1;").does("see 2 6 1");
        two.asked(0x60, "tastes 0").asked(105, "ask 0 0").asked(1, "ask 0 1");
        two.does("see 1 6 1").asked(0x40, "tastes 0").asked(NONE, "ask 0 0").asked(NONE, "ask 0 1");
        two.does("see 1 5 1").asked(0, "tastes 0").asked(NONE, "ask 0 0").asked(NONE, "ask 0 1");
    }

    private static void promise38NoneIsFewerThanNow() {
        Run.told("promise 38, nothing tells", "wide 0 0;").asked(NONE, "ask 0 0").asked(NONE, "ask 0 1").asked(ALL_TASTES, "tastes 0");
        Run.told("promise 38, BAD ahead of NONE", "wide 0 0;").refused(BAD, "ask 0 2").refused(BAD, "ask 1 0");
        Run.told("promise 38, spite at LAST", "plain 9 0; spite 9 0;").asked(NONE, "ask 1 0");
    }

    public static void main(String[] args) throws ReflectiveOperationException {
        Run.all(BoundsSeenTest.class);
    }
}
