import java.util.Collections;
import java.util.List;

/** Promises 20 to 25 and 39, and A DAY of the Terms: how many DAYS, whose DAY, the edges of FOOD and TASTE. */
public final class BoundsDaysTest {
    private static final int BAD = Run.BAD, STATE = Run.STATE, FULL = Run.FULL, NONE = Run.NONE;
    /** HEDGE 2, which shuts the GUEST off from THE GATE, is opened on the 60th DAY: his FOOD is just enough. */
    private static final String IN_60 = "wide 0 0; wide 0 0; wide 0 0; wide 23 5; guest 3 60; hedge 2 15; gate 2;";
    /** The same on the 61st DAY. */
    private static final String IN_61 = "wide 18 5; wide 0 0; wide 0 0; wide 0 0; guest 3 60; hedge 2 15; gate 2;";

    private static Run onDay(Run run, int day) {
        for (int i = 0; i < day / 30; i++) {
            run.does("days 30");
        }
        return run.does("days " + day % 30);
    }

    // ---- days

    private static void promise20NIs0To30() {
        Run.bounds(() -> Run.garden("promise 20, n"), "days *", 0, 30);
        Run.garden("promise 20, no DAY").asked(0, "days 0");
        Run.garden("promise 20, 30 DAYS").changed(1, "days 30").due(34, "rule 2");
        Run.garden("promise 20, 30 DAYS are 30 times one").sameAs(List.of("days 30"), Collections.nCopies(30, "days 1"));
        Run.garden("promise 20, one beyond leaves DAY").refused(BAD, "days 31").due(4, "rule 2");
    }

    private static void promise20FullIsDay1000() {
        onDay(Run.garden("promise 20, to 999"), 965).due(969, "rule 2").due(0, "days 30").due(999, "rule 2");
        onDay(Run.garden("promise 20, to 1000"), 966).due(970, "rule 2").refused(FULL, "days 30").due(0, "days 29").due(999, "rule 2");
        onDay(Run.garden("promise 20, on 999"), 995).due(999, "rule 2").refused(FULL, "days 1").refused(FULL, "days 30")
            .asked(0, "days 0");
    }

    private static void promise20BadIsAheadOfFull() {
        onDay(Run.garden("promise 20, BAD ahead of FULL"), 995).refused(BAD, "days 31").refused(BAD, "days -1")
            .refused(BAD, "days min").refused(BAD, "days max");
    }

    private static void promise20HowManyGetOutInThem() {
        new Run("promise 20, four at once").does("come 0 1", "come 1 1", "come 4 1", "come 0 60").due(4, "days 1").due(0, "days 1");
        new Run("promise 20, one by one").does("come 1 9", "come 2 9", "come 3 9").due(1, "days 1").due(1, "days 1").due(1, "days 1")
            .due(0, "days 30").due(7, "rule 5");
        new Run("promise 20, in three").does("come 1 9", "come 2 9", "come 3 9", "come 15 9").due(3, "days 3").due(1, "days 3");
        new Run("promise 20, who is there again").does("come 0 2").due(1, "days 1").does("move 0 0").due(1, "days 1").due(0, "guest 0 1");
        new Run("promise 20, nobody").due(0, "days 30").due(30, "rule 2");
    }

    private static void promise20NobodyMowsWithoutGardeners() {
        Run.told("promise 20, no GARDENERS", "hedge 0 23;").due(0, "days 30").due(2, "rule 4").due(NONE, "rule 7").due(30, "rule 2");
    }

    /** The GARDENER whose number DAY leaves by GARDENERS. */
    private static void promise20TheDayComesRound() {
        for (int gardeners = 1; gardeners <= 4; gardeners++) {
            Run run = new Run("promise 20, " + gardeners + " GARDENERS");
            for (int g = 0; g < gardeners; g++) {
                run.does("hire 2 " + (10 + g) + " 0");
            }
            for (int day = 0; day < 13; day++) {
                run.does("days 1").due(10 + day % gardeners, "rule 7");
            }
        }
    }

    private static void promise20TheDayOfOthersWhenGardenersCome() {
        new Run("promise 20, DAY 2 by two").does("hire 2 10 0", "hire 2 11 0", "hire 2 12 0", "days 2", "leave 2", "days 1")
            .due(10, "rule 7");
        new Run("promise 20, DAY 3 by four").does("hire 2 10 0", "hire 2 11 0", "hire 2 12 0", "days 3", "hire 2 13 0", "days 1")
            .due(13, "rule 7").does("days 1").due(10, "rule 7");
        new Run("promise 20, DAY 7 by one").does("days 7", "hire 2 10 0", "days 1").due(10, "rule 7");
        Run late = new Run("promise 20, DAY 999 and 1000 by four").does("hire 2 10 0", "hire 2 11 0", "hire 2 12 0", "hire 2 13 0");
        onDay(late, 999).due(12, "rule 7").asked(13, "runs 1 3").asked(10, "runs 2 3");
    }

    /** TASTE is what TASTE and PACE leave by 24. */
    private static void promise20TheTasteComesRound() {
        int[][] rows = {{23, 1, 0}, {22, 1, 23}, {23, 0, 23}, {0, 0, 0}, {0, 9, 9}, {14, 9, 23}, {15, 9, 0}, {16, 9, 1}, {23, 9, 8}};
        for (int[] row : rows) {
            for (int kind = 0; kind < 4; kind++) {
                new Run("promise 20, TASTE " + row[0] + ", PACE " + row[1] + ", KIND " + kind)
                    .does("hire " + kind + " " + row[0] + " " + row[1], "days 1").due(row[2], "gardener 0 1")
                    .due(row[1], "gardener 0 2").due(kind == 3 ? 23 - row[0] : row[0], "rule 7");
            }
        }
        Run.told("promise 20, only his own TASTE", "plain 23 1; plain 23 2;").does("days 1").due(0, "gardener 0 1").due(23, "gardener 1 1")
            .does("days 1").due(0, "gardener 0 1").due(1, "gardener 1 1");
    }

    private static void promise20WhatEachKindDoes() {
        int[][] made = {{1, 0}, {1, 0}, {1, 1}, {0, 0}};
        for (int kind = 0; kind < 4; kind++) {
            for (int stood = 0; stood <= 1; stood++) {
                for (int taste : new int[] {0, 23}) {
                    int h = kind == 3 ? 23 - taste : taste;
                    new Run("promise 20, KIND " + kind + " at HEDGE " + h + ", " + stood)
                        .does("hire " + kind + " " + taste + " 0", "grow " + h + " " + stood, "days 1")
                        .due(made[kind][stood], "hedge " + h).due(made[kind][stood], "rule 4").due(h, "rule 7");
                }
            }
        }
    }

    private static void promise20SpiteAtLast() {
        Run.told("promise 20, spite at LAST", "close 0 0; spite 23 1;").does("days 1").due(1, "hedge 0").does("days 1").due(0, "hedge 0")
            .due(0, "hedge 23").due(0, "rule 7").due(0, "gardener 1 1");
        Run.told("promise 20, spite where nothing was changed", "wide 0 0; spite 5 0;").does("days 2").due(1, "hedge 23").due(1, "rule 4");
        Run.told("promise 20, spite and spite", "spite 5 1; spite 6 1;").does("days 1").due(1, "hedge 5").does("days 1").due(0, "hedge 5")
            .does("days 1").due(1, "hedge 5").due(1, "rule 4").due(7, "gardener 0 1").due(7, "gardener 1 1");
    }

    private static void promise20WithoutFoodHeIsLost() {
        Run.told("promise 20, FOOD 0", "guest 5 0;").due(0, "days 1").due(2, "guest 0 2").due(5, "guest 0 0").due(0, "guest 0 1");
        Run.told("promise 20, FOOD 0 at THE GATE", "guest 0 0;").due(0, "days 1").due(2, "guest 0 2");
        Run.told("promise 20, FOOD 1 at THE GATE", "guest 0 1;").due(1, "days 1").due(1, "guest 0 2").due(0, "guest 0 1");
        Run.told("promise 20, FOOD 0 beside THE GATE", "guest 1 0;").due(0, "days 1").due(2, "guest 0 2").due(1, "guest 0 0");
        Run.told("promise 20, FOOD 1 beside THE GATE", "guest 1 1;").due(1, "days 1").due(1, "guest 0 2").due(0, "guest 0 1").due(0, "guest 0 0");
    }

    private static void promise20FoodForJustTheWay() {
        Run.told("promise 20, just enough", "guest 15 6;").due(0, "days 5").due(0, "guest 0 2").due(1, "guest 0 1").due(1, "days 1")
            .due(1, "guest 0 2").due(0, "guest 0 1");
        Run.told("promise 20, one too little", "guest 15 5;").due(0, "days 5").due(0, "guest 0 2").due(0, "guest 0 1").due(1, "guest 0 0")
            .due(0, "days 1").due(2, "guest 0 2").due(1, "guest 0 0").due(0, "guest 0 1");
        Run.told("promise 20, one more than enough", "guest 15 7;").due(1, "days 6").due(1, "guest 0 1");
    }

    private static void promise20HeEatsWithoutAWay() {
        Run.told("promise 20, FOOD 60 without a way", "guest 15 60; hedge 11 23;").does("days 30", "days 29").due(1, "guest 0 1")
            .does("days 1").due(0, "guest 0 1").due(0, "guest 0 2").due(15, "guest 0 0").does("days 1").due(2, "guest 0 2").due(0, "guest 0 1");
    }

    private static void promise20WhoIsNotInDoesNothing() {
        Run.told("promise 20, OUT", "guest 0 9;").does("days 1").due(8, "guest 0 1").does("open 15", "days 30").due(8, "guest 0 1")
            .due(0, "guest 0 0").due(1, "guest 0 2");
        Run.told("promise 20, LOST", "guest 5 0;").does("days 1", "bread 0 60", "days 30").due(60, "guest 0 1").due(5, "guest 0 0").due(2, "guest 0 2");
    }

    private static void promise20TheGardenerIsAheadOfTheGuests() {
        Run.told("promise 20, shut ahead of him", "close 0 0; guest 1 1; hedge 1 13;").due(0, "days 1").due(1, "guest 0 0");
        Run.told("promise 20, opened ahead of him", "wide 23 0; guest 1 1; hedge 0 1 13;").due(1, "days 1").due(0, "guest 0 0");
    }

    // ---- BY DAYS

    private static void promise21NIs0To60() {
        for (int what = 0; what <= 3; what++) {
            String call = "runs * " + what;
            Run.bounds(() -> Run.garden("promise 21, n"), call, 0, 60);
        }
        Run.garden("promise 21, now").asked(1, "runs 0 0").asked(4, "runs 0 1").asked(6, "runs 0 2").asked(8, "runs 0 3");
        Run.told("promise 21, the 60th DAY", IN_60).asked(0, "runs 59 0").asked(1, "runs 60 0").asked(2, "runs 59 2").asked(1, "runs 60 2")
            .asked(23, "runs 59 3").asked(2, "runs 60 3").asked(0, "runs 60 1").does("bread 0 59").asked(0, "runs 59 1").asked(1, "runs 60 1");
    }

    private static void promise21WhatIs0To3() {
        Run.bounds(() -> Run.garden("promise 21, what"), "runs 5 *", 0, 3);
        new Run("promise 21, neither").refused(BAD, "runs 61 4").refused(BAD, "runs -1 -1");
    }

    private static void promise21EmptyAndFull() {
        new Run("promise 21, nobody").asked(0, "runs 60 0").asked(0, "runs 60 1").asked(0, "runs 60 2").asked(NONE, "runs 60 3");
        new Run("promise 21, all OUT").does("come 0 1", "come 0 1", "come 0 1", "come 0 1").asked(0, "runs 0 0").asked(4, "runs 1 0").asked(4, "runs 60 0");
        new Run("promise 21, all LOST").does("come 0 0", "come 0 0", "come 0 0", "come 0 0").asked(0, "runs 0 1").asked(15, "runs 1 1").asked(15, "runs 60 1");
        Run.told("promise 21, LAST is none now", "plain 0 0;").asked(NONE, "runs 0 3").asked(0, "runs 1 3");
        Run.told("promise 21, all HEDGES", "close 0 1; close 12 1;").asked(24, "runs 24 2").asked(23, "runs 23 2").asked(24, "runs 60 2");
    }

    private static void promise21BeyondDay1000() {
        onDay(Run.told("promise 21, from DAY 999", "hedge 1 2;"), 999).asked(2, "runs 60 2").asked(2, "runs 1 2").refused(FULL, "days 1");
    }

    private static void promise22GuestNAndWhat() {
        Run.bounds(() -> Run.garden("promise 22, a GUEST"), "ahead * 5 0", 0, 2);
        for (int what = 0; what <= 2; what++) {
            String call = "ahead 0 * " + what;
            Run.bounds(() -> Run.garden("promise 22, n"), call, 0, 60);
        }
        Run.bounds(() -> Run.garden("promise 22, what"), "ahead 0 5 *", 0, 2);
        new Run("promise 22, of none").refused(BAD, "ahead 0 0 0").refused(BAD, "ahead -1 0 0");
    }

    private static void promise22NowAndThe60thDay() {
        Run.garden("promise 22, now").asked(12, "ahead 0 0 0").asked(29, "ahead 0 0 1").asked(0, "ahead 0 0 2").asked(1, "ahead 1 0 2").asked(2, "ahead 2 0 2");
        Run.told("promise 22, the 60th DAY", IN_60).asked(3, "ahead 0 59 0").asked(2, "ahead 0 60 0").asked(1, "ahead 0 59 1")
            .asked(0, "ahead 0 60 1").asked(0, "ahead 0 59 2").asked(1, "ahead 0 60 2").does("bread 0 59")
            .asked(0, "ahead 0 59 2").asked(2, "ahead 0 60 2").asked(3, "ahead 0 60 0").asked(0, "ahead 0 60 1");
        new Run("promise 22, the fourth").does("come 0 0", "come 0 0", "come 0 0", "come 15 6").asked(1, "ahead 3 5 0").asked(0, "ahead 3 6 0")
            .asked(0, "ahead 3 5 2").asked(1, "ahead 3 6 2").refused(BAD, "ahead 4 6 2");
    }

    private static void promise23HedgeAndN() {
        Run.bounds(() -> Run.garden("promise 23, a HEDGE"), "stands * 5", 0, 23);
        Run.bounds(() -> Run.garden("promise 23, n"), "stands 0 *", 0, 60);
        Run.garden("promise 23, now").asked(1, "stands 8 0").asked(0, "stands 0 0").asked(0, "stands 23 0");
        Run.told("promise 23, the 60th DAY", IN_60).asked(1, "stands 2 59").asked(0, "stands 2 60").asked(1, "stands 15 60");
        Run.told("promise 23, first and last HEDGE", "close 0 0; close 23 0;").asked(0, "stands 0 0").asked(1, "stands 0 1")
            .asked(0, "stands 23 1").asked(1, "stands 23 2");
    }

    private static void promise24ThereIsSuchAGuest() {
        Run.bounds(() -> Run.garden("promise 24, a GUEST"), "out *", 0, 2);
        new Run("promise 24, of none").refused(BAD, "out 0").refused(BAD, "out -1");
        new Run("promise 24, of four").does("come 0 1", "come 1 2", "come 2 3", "come 3 4").asked(1, "out 0").asked(3, "out 3").refused(BAD, "out 4");
    }

    private static void promise24Behind0To60() {
        Run.garden("promise 24, OUT now").asked(0, "out 1");
        Run.told("promise 24, OUT behind 1", "guest 0 1; guest 1 1;").asked(1, "out 0").asked(1, "out 1");
        Run.told("promise 24, OUT behind 60", IN_60).asked(60, "out 0");
        Run.told("promise 24, not behind 61", IN_61).asked(1, "stands 2 60").asked(NONE, "out 0").does("days 1", "bread 0 60").asked(60, "out 0");
    }

    private static void promise24NoneIsBehindNone() {
        Run.garden("promise 24, LOST now").asked(NONE, "out 2");
        Run.told("promise 24, LOST at THE GATE", "guest 0 0;").asked(NONE, "out 0");
        Run.told("promise 24, FOOD is one too little", IN_60).does("bread 0 59").asked(NONE, "out 0");
        Run.told("promise 24, no way", "guest 15 60; hedge 11 23;").asked(NONE, "out 0");
    }

    private static void again(String text, int days, int due) {
        Run.told("promise 25, \"" + text + "\" behind " + days, text).does("days " + days).asked(due, "again");
    }

    private static void promise25WithoutGardenersBehind1() {
        new Run("promise 25, nothing").asked(1, "again");
        Run.garden("promise 25, all have left").does("leave 0").asked(1, "again");
        new Run("promise 25, GUESTS do not count").does("come 15 60").asked(1, "again");
    }

    private static void promise25Behind1() {
        again("close 5 0;", 1, 1);
        again("wide 5 0;", 1, 1);
        again("plain 5 0;", 1, 2);
        again("spite 5 0;", 1, 2);
    }

    private static void promise25LastIsNoneNow() {
        again("close 5 0; hedge 5;", 0, Run.NONE);
        again("wide 5 0;", 0, Run.NONE);
        again("plain 5 0;", 0, Run.NONE);
    }

    private static void promise25TheSameGardener() {
        again("close 5 0; close 5 0;", 1, 2);
        again("close 5 0; close 5 0; close 5 0;", 1, 3);
        again("close 5 0; close 5 0; close 5 0; close 5 0;", 1, 4);
    }

    private static void promise25HedgesTastesLast() {
        again("close 5 8;", 1, NONE);
        again("close 5 8;", 2, NONE);
        again("close 5 8;", 3, 3);
        again("wide 5 1;", 1, 24);
        again("close 5 0; close 6 0;", 2, 2);
        Run.told("promise 25, LAST alone is another", "close 5 0; hedge 6;").does("days 1", "alter 0 1 6").asked(NONE, "again");
        Run.told("promise 25, the last of four has another TASTE", "close 0 0; close 0 0; close 0 0; close 0 1;").does("days 4").asked(NONE, "again");
    }

    /** Spite undoes what was done: HEDGES and LAST are as they were ahead of his TASTE. */
    private static void promise25TheTasteOfEachGardener() {
        again("spite 5 1;", 1, 24);
        again("spite 5 8;", 1, 6);
        again("spite 3 1; close 5 0;", 2, 48);
        again("close 5 0; spite 3 1;", 2, 48);
        again("close 5 0; spite 3 8;", 2, 6);
        again("close 5 0; close 5 0; close 5 0; spite 3 8;", 4, 12);
        again("close 5 0; close 5 0; close 5 0; spite 3 1;", 4, NONE);
        Run.told("promise 25, the TASTE of who has left", "close 5 0; close 5 0; spite 3 1;").does("days 2", "leave 1").asked(1, "again");
    }

    /** DAYS come again by GARDENERS times a divisor of 24, once or twice: 48 is the most up to 60, 64 is the next. */
    private static void promise25Behind60AtMost() {
        again("plain 5 1;", 1, 48);
        again("wide 0 1; wide 0 1;", 2, 48);
        again("wide 0 2; wide 0 2; wide 0 2; wide 0 2;", 4, 48);
        again("plain 0 3; plain 0 3; plain 1 3; plain 1 3;", 4, 32);
        again("plain 0 3; plain 1 3; plain 2 3; plain 3 3;", 4, NONE);
        again("wide 0 1; wide 0 1; wide 0 1;", 3, NONE);
    }

    // ---- drift

    private static void promise39NIs1To60() {
        for (int what = 0; what <= 1; what++) {
            String call = "drift 7 * " + what;
            Run.bounds(() -> Run.garden("promise 39, n"), call, 1, 60);
        }
    }

    private static void promise39WhatIs0Or1() {
        Run.bounds(() -> Run.garden("promise 39, what"), "drift 7 5 *", 0, 1);
    }

    private static void promise39AnySeed() {
        for (String seed : new String[] {"min", "max", "0", "-1", "1", "65535", "65536", "-65536"}) {
            for (int n : new int[] {1, 2, 59, 60}) {
                int first = seed.equals("min") ? Integer.MIN_VALUE : seed.equals("max") ? Integer.MAX_VALUE : Integer.parseInt(seed);
                int hedges = drifted(1 << 11 | 1 << 23, first, n);
                Run.told("promise 39, seed " + seed, "guest 15 9; hedge 11 23;").asked(hedges, "drift " + seed + " " + n + " 1");
            }
        }
    }

    /** How many HEDGES stand: the seed is taken by its lowest 32 bits, of which bit 31 is not got. */
    private static int drifted(int from, int first, int n) {
        long seed = first;
        int hedges = from;
        for (int d = 0; d < n; d++) {
            seed = Math.floorMod(seed * 1103515245L + 12345L, 1L << 32);
            hedges ^= 1 << (int) (seed / 65536 % 32768 % 24);
        }
        return Integer.bitCount(hedges);
    }

    private static void promise39StateIsNoGuests() {
        new Run("promise 39, no GUESTS").refused(STATE, "drift 1 1 0").refused(STATE, "drift 1 60 1");
        Run.told("promise 39, GARDENERS alone", "plain 1 1;").refused(STATE, "drift 1 1 1");
        new Run("promise 39, BAD ahead of STATE").refused(BAD, "drift 1 0 0").refused(BAD, "drift 1 61 0")
            .refused(BAD, "drift 1 1 2").refused(BAD, "drift 1 1 -1");
        Run.told("promise 39, all are LOST", "guest 5 0;").does("days 1").asked(0, "drift 1 60 0");
        Run.told("promise 39, all are OUT", "guest 0 1;").does("days 1").asked(1, "drift 1 1 0").asked(1, "drift 1 60 0");
    }

    /** By seed 0 it is HEDGE 0, by seed 1 HEDGE 14. */
    private static void promise39TheHedgeIsChangedAheadOfTheDay() {
        Run.told("promise 39, shut ahead of him", "guest 1 1;").asked(0, "drift 0 1 0").asked(1, "drift 0 1 1").asked(1, "drift 1 1 0");
        Run.told("promise 39, opened ahead of him", "guest 1 1; hedge 0 1 13;").asked(1, "drift 0 1 0").asked(2, "drift 0 1 1");
        Run.told("promise 39, ahead of the GARDENER too", "plain 0 0; guest 1 1;").asked(1, "drift 0 1 0").asked(0, "drift 0 1 1");
    }

    public static void main(String[] args) throws ReflectiveOperationException {
        Run.all(BoundsDaysTest.class);
    }
}
