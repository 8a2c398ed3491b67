/** Promises 2 to 5 and the text of the Terms: each sentence that bounds, refuses, or tells of empty and full. */
public final class BoundsTextTest {
    private static final int BAD = Run.BAD, STATE = Run.STATE, FULL = Run.FULL, NONE = Run.NONE;
    private static final String[] KINDS = {"plain", "spite", "close", "wide"};

    private static Run taped(String name, String text) {
        return Run.garden(name).does("end 0").fed(text);
    }

    /** The text is refused; the garden that was there is as it was. */
    private static void refused(String name, String text, int place, int fault) {
        taped(name + " \"" + text + "\"", text).refusedText(place, fault);
    }

    private static Run taken(String name, String text, int lines) {
        return taped(name + " \"" + text + "\"", text).due(lines, "text").due(0, "fault").due(0, "count 2");
    }

    // ---- feed

    private static void promise2AByteIs0To127() {
        Run.bounds(() -> Run.garden("promise 2, a byte"), "feed *", 0, 127);
        new Run("promise 2, bytes 0 and 127").due(1, "feed 0").due(2, "feed 127").due(2, "count 2");
    }

    private static void promise2HowManyThereAre() {
        Run run = new Run("promise 2, how many");
        for (int n = 1; n <= 160; n++) {
            run.due(n, "feed 32");
        }
    }

    private static void promise2FullIsMoreThan160() {
        Run.garden("promise 2, the 160th and the 161st").fed(" ".repeat(151))
            .due(160, "feed 32").refused(FULL, "feed 32");
        new Run("promise 2, full stays full").fed(" ".repeat(160))
            .refused(FULL, "feed 0").refused(FULL, "feed 127").due(160, "count 2");
    }

    private static void promise2BadIsAheadOfFull() {
        new Run("promise 2, BAD when full").fed(" ".repeat(160))
            .refused(BAD, "feed -1").refused(BAD, "feed 128").refused(BAD, "feed min").refused(BAD, "feed max");
    }

    private static void promise2RoomAgain() {
        new Run("promise 2, room by end()").fed(" ".repeat(160))
            .due(160, "end 159").due(160, "feed 64").due(FULL, "feed 64").due(-169, "text").due(1, "feed 32");
        new Run("promise 2, room by text()").fed(" ".repeat(160)).due(FULL, "feed 32")
            .due(0, "text").due(1, "feed 32");
    }

    private static void promise2WhatIsRefusedIsNotOnTheTape() {
        new Run("promise 2, refused bytes").fed("gate ").due(BAD, "feed 128").due(BAD, "feed -1").fed("7;")
            .due(1, "text").due(7, "rule 3");
    }

    // ---- end

    private static void promise3EndIs0ToWhatThereIs() {
        Run.bounds(() -> Run.garden("promise 3, of eight bytes"), "end *", 0, 8);
        Run.bounds(() -> new Run("promise 3, of none"), "end *", 0, 0);
        Run.bounds(() -> new Run("promise 3, of one").fed(";"), "end *", 0, 1);
        Run.bounds(() -> new Run("promise 3, of 160").fed(";".repeat(160)), "end *", 0, 160);
    }

    private static void promise3HowManyItHad() {
        new Run("promise 3, how many it had").fed("hedge;").due(6, "end 6").due(6, "end 5").due(5, "end 5")
            .due(5, "end 1").due(1, "end 0").due(0, "end 0").due(0, "count 2");
        new Run("promise 3, of the full one").fed(" ".repeat(160)).due(160, "end 160").due(160, "end 159")
            .due(159, "count 2");
    }

    private static void promise3TheFirstBytesAreKept() {
        new Run("promise 3, the first are kept").fed("gate 12;").does("end 6").fed(";").due(1, "text").due(1, "rule 3");
        new Run("promise 3, what is gone is not read").fed("gate 12;gate").does("end 8").due(1, "text").due(12, "rule 3");
        new Run("promise 3, no part of a NAME").fed("gates").does("end 4").due(-14, "text").due(2, "fault");
        new Run("promise 3, no part of a NUMBER").fed("gate 12").does("end 6").due(-16, "text").due(2, "fault");
        new Run("promise 3, nothing is kept").fed("@").does("end 0").due(0, "text").due(0, "fault");
    }

    private static void promise3WhatIsGoneDoesNotComeBack() {
        new Run("promise 3, gone is gone").fed("gate 3;").does("end 2").due(BAD, "end 7").due(BAD, "end 3").due(2, "count 2");
    }

    // ---- text: empty, full, what is told

    private static void promise4TheEmptyTapeTellsAll() {
        Run run = Run.garden("promise 4, the empty tape").does("end 0").due(0, "text").due(0, "fault");
        isAsAtFirst(run);
    }

    private static void promise4BlanksAloneTellAll() {
        isAsAtFirst(taken("promise 4, one blank", " ", 0));
        Run run = new Run("promise 4, 160 blanks").does("grow 3 1", "open 9", "hire 0 0 0", "come 0 0")
            .fed(" ".repeat(160)).due(0, "text");
        isAsAtFirst(run.does("sheet 0 0 6"));
    }

    /** What no line tells is as at first; nothing is SEEN; IMAGES are gone; SHEETS stay. */
    private static void isAsAtFirst(Run run) {
        int[] rules = {0, 0, 0, 0, 0, 0, 0, NONE};
        for (int what = 0; what < rules.length; what++) {
            run.due(rules[what], "rule " + what);
        }
        for (int h = 0; h < 24; h++) {
            run.due(0, "hedge " + h);
        }
        run.due(BAD, "gardener 0 0").due(BAD, "guest 0 0").due(0, "count 0").due(0, "count 1")
            .due(STATE, "back 0").due(STATE, "back 1").due(6, "count 3").due(0, "count 4").due(0, "count 5");
    }

    private static void promise4WhatNoLineTellsIsAsAtFirst() {
        taken("promise 4, a gate alone", "gate 9;", 1).due(9, "rule 3").due(0, "rule 0").due(0, "rule 1")
            .due(0, "rule 2").due(0, "rule 4").due(NONE, "rule 7");
        taken("promise 4, a hedge alone", "hedge 23;", 1).due(0, "rule 3").due(0, "rule 0").due(0, "rule 1").due(1, "rule 4");
        taken("promise 4, a gardener alone", "spite 5 6;", 1).due(0, "rule 3").due(1, "rule 0").due(0, "rule 1")
            .due(0, "rule 4").due(5, "gardener 0 3");
        taken("promise 4, a guest alone", "guest 6 7;", 1).due(0, "rule 3").due(0, "rule 0").due(1, "rule 1")
            .due(0, "rule 4").due(0, "rule 5").due(0, "rule 6").due(0, "guest 0 2");
    }

    private static void promise4SheetsAndTornStay() {
        taken("promise 4, sheets stay", "gate 9;", 1).due(6, "count 3").due(1, "torn")
            .due(3, "read 0 0 0 3").due(1, "hedge 1").due(1, "hedge 17").due(-11, "lay 3 0 0");
    }

    private static void promise4HowManyLines() {
        taken("promise 4, one line", "hedge;", 1);
        taken("promise 4, two lines", "hedge;hedge;", 2);
        Run full = new Run("promise 4, 26 lines of 160 bytes").fed("hedge;".repeat(26)).fed("    ");
        full.due(160, "count 2").due(26, "text").due(0, "count 2");
        Run last = new Run("promise 4, the sign is the 160th byte").fed("hedge;".repeat(25)).fed("guest 3 4;");
        last.due(160, "count 2").due(26, "text").due(3, "guest 0 0").due(4, "guest 0 1");
    }

    private static void promise4TheTapeIsEmptyThen() {
        taken("promise 4, taken, empty", "gate 9;", 1).due(1, "feed 59").due(-10, "text");
        taped("promise 4, refused, empty", "gate 9; @").due(-18, "text").due(0, "count 2").due(1, "feed 32")
            .due(0, "text").due(0, "fault");
    }

    private static void promise4ThePlaceOfAFault() {
        refused("promise 4, place 0", "@", 0, 1);
        refused("promise 4, place 1", " @", 1, 1);
        new Run("promise 4, place 159").fed(" ".repeat(159)).fed("@").due(-169, "text").due(1, "fault");
        new Run("promise 4, the length 160").fed("hedge").fed(" ".repeat(155)).due(-170, "text").due(2, "fault");
        new Run("promise 4, the length 159").fed("hedge").fed(" ".repeat(154)).due(-169, "text").due(2, "fault");
    }

    private static void promise4ByAFaultWhatWasToldStays() {
        refused("promise 4, lines ahead of the fault", "plain 1 1; guest 1 1; hedge 0; gate 1; x", 39, 2);
        refused("promise 4, the sign is missing", "plain 1 1; guest 1 1; hedge 0; gate 1", 37, 2);
        refused("promise 4, behind all lines", "hedge;hedge 1;!", 14, 1);
    }

    private static void promise4ATextStandsAlone() {
        Run run = taken("promise 4, one text, then another", "hedge 3;gate 4;plain 1 1;guest 1 1;", 4);
        run.fed("hedge 3;gate 4;close 2 2;guest 5 5;").due(4, "text").due(1, "rule 0").due(1, "rule 1")
            .due(1, "rule 4").due(2, "gardener 0 0").due(5, "guest 0 0");
        Run half = taped("promise 4, told by a refused text", "hedge 3;gate 4;plain 1 1;guest 1 1;@").due(-45, "text");
        half.fed("hedge 3;gate 4;").due(2, "text").due(0, "rule 0").due(0, "rule 1").due(1, "rule 4").due(4, "rule 3");
    }

    // ---- TOKENS

    private static void promise4AnyNumberOfBlanks() {
        taken("promise 4, no blank", "plain3 5;guest4 6;hedge;gate7;", 4).due(3, "gardener 0 1").due(5, "gardener 0 2");
        taken("promise 4, blanks all over", "  plain  3  5  ;  guest  4  6  ;  hedge  ;  gate  7  ;  ", 4)
            .due(4, "guest 0 0").due(6, "guest 0 1").due(7, "rule 3");
        taken("promise 4, NUMBERS end at the sign", "hedge0 1 2;hedge3;", 2).due(4, "rule 4");
    }

    private static void promise4OneBlankBetweenTwoNames() {
        refused("promise 4, two NAMES in one", "hedge;gategate 1;", 6, 2);
        refused("promise 4, two NAMES apart", "gate gate 1;", 5, 2);
    }

    private static void promise4OneBlankBetweenTwoNumbers() {
        refused("promise 4, two NUMBERS in one", "plain 12;", 8, 2);
        refused("promise 4, two NUMBERS in one, too long", "plain 123;", 6, 1);
        taken("promise 4, two NUMBERS apart", "plain 1 2;", 1).due(1, "gardener 0 1").due(2, "gardener 0 2");
        refused("promise 4, no NAME behind a NUMBER", "gate 1gate 2;", 6, 2);
    }

    private static void promise4ANumberHas1Or2Figures() {
        taken("promise 4, one figure", "gate 0;", 1).due(0, "rule 3");
        taken("promise 4, two figures", "gate 00;", 1).due(0, "rule 3");
        taken("promise 4, two figures, not 0", "gate 09;", 1).due(9, "rule 3");
        refused("promise 5, FAULT 1, three figures", "gate 000;", 5, 1);
        refused("promise 5, FAULT 1, three figures that would fit", "gate 009;", 5, 1);
        refused("promise 5, FAULT 1, three figures at the end", "gate 100", 5, 1);
        refused("promise 5, FAULT 1, three figures where no NUMBER stands", "123 gate 1;", 0, 1);
        refused("promise 5, FAULT 1, three figures for the sign", "gate 1 123;", 7, 1);
        new Run("promise 5, FAULT 1, 160 figures").fed("9".repeat(160)).due(-10, "text").due(1, "fault");
        new Run("promise 5, FAULT 1, 155 figures").fed("gate ").fed("0".repeat(155)).due(-15, "text").due(1, "fault");
    }

    private static void promise5EveryByteAlone() {
        for (int c = 0; c <= 127; c++) {
            boolean token = c >= 'a' && c <= 'z' || c >= '0' && c <= '9' || c == ';';
            Run run = new Run("promise 5, the byte " + c).does("open 3", "feed " + c);
            if (c == ' ') {
                run.due(0, "text").due(0, "fault").due(0, "rule 3");
            } else {
                run.refusedText(0, token ? 2 : 1).due(3, "rule 3");
            }
        }
    }

    private static void promise5Fault1NoTokenAtEveryPlace() {
        refused("promise 5, FAULT 1 for a NAME", "gate 1;@", 7, 1);
        refused("promise 5, FAULT 2 ahead of 1 in a NAME", "ga_te 1;", 0, 2);
        refused("promise 5, FAULT 1 behind a NAME", "gate_ 1;", 4, 1);
        refused("promise 5, FAULT 1 for a NUMBER", "gate -1;", 5, 1);
        refused("promise 5, FAULT 1 in a NUMBER", "gate 1.5;", 6, 1);
        refused("promise 5, FAULT 1 for the second NUMBER", "plain 1 +1;", 8, 1);
        refused("promise 5, FAULT 1 for the sign", "gate 1:", 6, 1);
        refused("promise 5, FAULT 1 in a hedge", "hedge 1,2;", 7, 1);
        refused("promise 5, FAULT 1, a letter that is great", "Gate 1;", 0, 1);
        refused("promise 5, FAULT 1, a line's end", "gate 1;\n", 7, 1);
        refused("promise 5, FAULT 1, a tab", "gate\t1;", 4, 1);
    }

    private static void promise5Fault2ANameThatBeginsNoLine() {
        String[] names = {"plai", "plainx", "xplain", "spit", "spites", "clos", "closed", "wid", "wider", "gues",
            "guests", "hedg", "hedges", "gat", "gates", "a", "z", "plaim", "plaio", "blain", "epite",
            "flose", "mide", "quest", "ledge", "fate", "ate", "n"};
        for (String name : names) {
            refused("promise 5, FAULT 2, a NAME", "hedge; " + name + " 1 1;", 7, 2);
        }
        new Run("promise 5, FAULT 2, a NAME of 160").fed("g".repeat(160)).due(-10, "text").due(2, "fault");
    }

    private static void promise5Fault2ATokenThatCanNotStandThere() {
        refused("promise 5, FAULT 2, a NUMBER for a line", " 1;", 1, 2);
        refused("promise 5, FAULT 2, a sign for a line", " ;", 1, 2);
        refused("promise 5, FAULT 2, a sign more", "gate 1;;", 7, 2);
        for (String kind : KINDS) {
            int at = kind.length() + 1;
            refused("promise 5, FAULT 2, no TASTE", kind + " ;", at, 2);
            refused("promise 5, FAULT 2, a NAME for TASTE", kind + " gate 1;", at, 2);
            refused("promise 5, FAULT 2, no PACE", kind + " 1 ;", at + 2, 2);
            refused("promise 5, FAULT 2, a NAME for PACE", kind + " 1 x;", at + 2, 2);
            refused("promise 5, FAULT 2, a third NUMBER", kind + " 1 1 1;", at + 4, 2);
            refused("promise 5, FAULT 2, a NAME for the sign", kind + " 1 1 x;", at + 4, 2);
        }
        refused("promise 5, FAULT 2, no AT", "guest;", 5, 2);
        refused("promise 5, FAULT 2, no FOOD", "guest 1;", 7, 2);
        refused("promise 5, FAULT 2, a third NUMBER of a guest", "guest 1 1 1;", 10, 2);
        refused("promise 5, FAULT 2, no gate", "gate;", 4, 2);
        refused("promise 5, FAULT 2, two gates in a line", "gate 1 1;", 7, 2);
        refused("promise 5, FAULT 2, a NAME in a hedge", "hedge 1 gate 1;", 8, 2);
    }

    private static void promise5Fault2TheEndIsTheLength() {
        String[] lines = {"plain 1 1;", "spite 1 1;", "close 1 1;", "wide 1 1;", "guest 1 1;", "hedge 1 2;", "gate 12;"};
        for (String line : lines) {
            for (int n = line.indexOf(' '); n < line.length(); n++) {
                refused("promise 5, FAULT 2, the end", line.substring(0, n), n, 2);
            }
            refused("promise 5, FAULT 2, the end behind blanks", line.replace(';', ' ') + " ", line.length() + 1, 2);
            taken("promise 5, the line whole", line, 1);
        }
    }

    private static void promise5Fault3BoundsOfAGardener() {
        for (String kind : KINDS) {
            int at = kind.length() + 1;
            taken("promise 5, the least of a GARDENER", kind + " 0 0;", 1).due(0, "gardener 0 1").due(0, "gardener 0 2");
            taken("promise 5, the most of a GARDENER", kind + " 23 9;", 1).due(23, "gardener 0 1").due(9, "gardener 0 2");
            refused("promise 5, FAULT 3, TASTE 24", kind + " 24 9;", at, 3);
            refused("promise 5, FAULT 3, TASTE 99", kind + " 99 9;", at, 3);
            refused("promise 5, FAULT 3, PACE 10", kind + " 23 10;", at + 3, 3);
            refused("promise 5, FAULT 3, PACE 99", kind + " 23 99;", at + 3, 3);
        }
    }

    private static void promise5Fault3BoundsOfAGuest() {
        taken("promise 5, the least of a GUEST", "guest 0 0;", 1).due(0, "guest 0 0").due(0, "guest 0 1");
        taken("promise 5, the most of a GUEST", "guest 15 60;", 1).due(15, "guest 0 0").due(60, "guest 0 1");
        refused("promise 5, FAULT 3, AT 16", "guest 16 60;", 6, 3);
        refused("promise 5, FAULT 3, AT 99", "guest 99 60;", 6, 3);
        refused("promise 5, FAULT 3, FOOD 61", "guest 15 61;", 9, 3);
        refused("promise 5, FAULT 3, FOOD 99", "guest 15 99;", 9, 3);
    }

    private static void promise5Fault3BoundsOfAHedgeAndTheGate() {
        taken("promise 5, the least HEDGE", "hedge 0;", 1).due(1, "hedge 0").due(1, "rule 4");
        taken("promise 5, the greatest HEDGE", "hedge 23;", 1).due(1, "hedge 23").due(1, "rule 4");
        refused("promise 5, FAULT 3, HEDGE 24", "hedge 0 24;", 8, 3);
        refused("promise 5, FAULT 3, HEDGE 99", "hedge 99;", 6, 3);
        taken("promise 5, the least gate", "gate 0;", 1).due(0, "rule 3");
        taken("promise 5, the greatest gate", "gate 15;", 1).due(15, "rule 3");
        refused("promise 5, FAULT 3, gate 16", "gate 16;", 5, 3);
        refused("promise 5, FAULT 3, gate 99", "gate 99;", 5, 3);
    }

    private static void promise5Fault4GateForTheSecondTime() {
        refused("promise 5, FAULT 4, the same gate", "gate 1;gate 1;", 7, 4);
        refused("promise 5, FAULT 4, gate 0 is told too", "gate 0; gate 0;", 8, 4);
        refused("promise 5, FAULT 4, its NAME is enough", "gate 1; hedge; gate", 15, 4);
        refused("promise 5, FAULT 4, whatever stands behind it", "gate 1;gate @", 7, 4);
        refused("promise 5, FAULT 4, whatever its NUMBER is", "gate 1;gate 16;", 7, 4);
    }

    private static void promise5Fault4AHedgeThatIsToldAlready() {
        refused("promise 5, FAULT 4, in its line", "hedge 0 0;", 8, 4);
        refused("promise 5, FAULT 4, in a later line", "hedge 23;gate 1;hedge 22 23;", 25, 4);
        refused("promise 5, FAULT 4, written otherwise", "hedge 7 07;", 8, 4);
        refused("promise 5, FAULT 4, not the next one", "hedge 7 6 8 7;", 12, 4);
        taken("promise 5, all HEDGES but once", "hedge 0 1 2 3 4 5 6 7 8 9 10 11;hedge 12 13 14 15 16 17 18 19 20 21 22 23;", 2)
            .due(24, "rule 4");
        taken("promise 5, no HEDGES", "hedge;hedge;", 2).due(0, "rule 4");
        taken("promise 5, a HEDGE that stood ahead of the text", "hedge 2 5 20;", 1).due(3, "rule 4");
    }

    private static void promise5Fault5TheFifthGardener() {
        String four = "plain 0 0;spite 1 1;close 2 2;wide 3 3;";
        taken("promise 5, four GARDENERS", four, 4).due(4, "rule 0").due(3, "gardener 3 0").due(3, "gardener 3 1");
        for (String kind : KINDS) {
            refused("promise 5, FAULT 5, the 5th GARDENER", four + kind + " 0 0;", 39, 5);
            refused("promise 5, FAULT 5, whatever stands behind it", four + " " + kind + " @", 40, 5);
            refused("promise 5, FAULT 5, at the end", four + kind, 39, 5);
        }
        taken("promise 5, four of a KIND", "wide 1 1;".repeat(4), 4).due(4, "rule 0");
        refused("promise 5, FAULT 5, five of a KIND", "wide 1 1;".repeat(5), 36, 5);
    }

    private static void promise5Fault5TheFifthGuest() {
        String four = "guest 1 2;".repeat(4);
        taken("promise 5, four GUESTS", four, 4).due(4, "rule 1").due(1, "guest 3 0").due(2, "guest 3 1");
        refused("promise 5, FAULT 5, the 5th guest", four + "guest 1 2;", 40, 5);
        refused("promise 5, FAULT 5, its NAME is enough", four + " guest", 41, 5);
        refused("promise 5, FAULT 5, whatever its NUMBERS are", four + "guest 16 61;", 40, 5);
        taken("promise 5, four and four", four + "wide 1 1;".repeat(4), 8).due(4, "rule 0").due(4, "rule 1");
        taken("promise 5, four again", four, 4).fed(four).due(4, "text").due(4, "rule 1");
    }

    private static void promise5TheFirstThatIsMet() {
        refused("promise 5, FAULT 1 ahead of 2", "gate @ gate", 5, 1);
        refused("promise 5, FAULT 2 ahead of 1", "gate gate @", 5, 2);
        refused("promise 5, FAULT 3 ahead of 1", "gate 16@", 5, 3);
        refused("promise 5, FAULT 3 ahead of 2", "plain 24;", 6, 3);
        refused("promise 5, FAULT 3 ahead of 4", "hedge 5 24 5;", 8, 3);
        refused("promise 5, FAULT 4 ahead of 3", "hedge 5 5 24;", 8, 4);
        refused("promise 5, FAULT 4 ahead of 1", "hedge 5 5@", 8, 4);
        refused("promise 5, FAULT 3 ahead of 5", "wide 1 1;".repeat(3) + "wide 24 1;wide 1 1;", 32, 3);
        refused("promise 5, FAULT 1, not 3, by too many figures", "gate 160;", 5, 1);
    }

    private static void promise5OfTheLatestText() {
        new Run("promise 5, no text yet").due(0, "fault").fed("@").due(0, "fault").due(-10, "text").due(1, "fault")
            .due(1, "fault").fed("gate 16;").due(1, "fault").due(-15, "text").due(3, "fault")
            .due(0, "text").due(0, "fault");
        Run.garden("promise 5, other calls leave it").due(1, "fault").does("days 1", "back 0", "end 0", "read 0 0 0 1").due(1, "fault");
    }

    public static void main(String[] args) throws ReflectiveOperationException {
        Run.all(BoundsTextTest.class);
    }
}
