/** Each promise of the document by hand: ordinary calls, the edges that it names, wrong numbers. */
public final class PromisesTest {
    private static final int BAD = -1, STATE = -2, FULL = -3, NONE = -4;
    private static final int[] WRONG = {Integer.MIN_VALUE, -5, -1, 1000, Integer.MAX_VALUE};
    private static final Check CHECK = new Check();

    private static void due(String call, long got, long want) {
        CHECK.due(call, got, want);
    }

    private static void refused(String text, int place, int fault) {
        MownMaze x = Check.told("wide 7 3; guest 9 8; hedge 5; gate 2;");
        due("text \"" + text + "\"", Check.tell(x, text), -10 - place);
        due("fault of \"" + text + "\"", x.fault(), fault);
        due("tape behind \"" + text + "\"", x.count(2), 0);
        due("gardener behind \"" + text + "\"", x.gardener(0, 1), 7);
        due("guest behind \"" + text + "\"", x.guest(0, 0), 9);
        due("hedge behind \"" + text + "\"", x.hedge(5), 1);
        due("gate behind \"" + text + "\"", x.rule(3), 2);
    }

    private static void taken(String text, int lines) {
        MownMaze x = new MownMaze();
        due("text \"" + text + "\"", Check.tell(x, text), lines);
        due("fault of \"" + text + "\"", x.fault(), 0);
    }

    private static void promise1New() {
        MownMaze x = new MownMaze();
        for (int h = 0; h < 24; h++) {
            due("new hedge " + h, x.hedge(h), 0);
        }
        int[] rules = {0, 0, 0, 0, 0, 0, 0, NONE};
        for (int what = 0; what < 8; what++) {
            due("new rule " + what, x.rule(what), rules[what]);
        }
        for (int k = 0; k < 4; k++) {
            due("new sheet " + k, x.lay(k, 0, 0), -11);
        }
        due("new torn", x.torn(), 0);
        due("new fault", x.fault(), 0);
        due("new seen", x.count(0), 0);
        due("new images", x.count(1), 0);
        due("new tape", x.count(2), 0);
    }

    private static void promise2Feed() {
        MownMaze x = new MownMaze();
        due("feed -1", x.feed(-1), BAD);
        due("feed 128", x.feed(128), BAD);
        due("feed 0", x.feed(0), 1);
        due("feed 127", x.feed(127), 2);
        for (int n = 3; n <= 160; n++) {
            due("feed the " + n + "th", x.feed(32), n);
        }
        due("feed the 161st", x.feed(32), FULL);
        due("feed wrong when full", x.feed(200), BAD);
        due("tape", x.count(2), 160);
    }

    private static void promise3End() {
        MownMaze x = new MownMaze();
        due("end 0 of none", x.end(0), 0);
        Check.feed(x, "gate 5;@@");
        due("end -1", x.end(-1), BAD);
        due("end 10", x.end(10), BAD);
        due("end 9", x.end(9), 9);
        due("end 7", x.end(7), 9);
        due("end 8", x.end(8), BAD);
        due("tape", x.count(2), 7);
        due("text", x.text(), 1);
        due("gate", x.rule(3), 5);
        Check.feed(x, "gates");
        x.end(4);
        due("what end() took is no part of a name", x.text(), -14);
        Check.feed(x, "gate 12");
        x.end(6);
        due("what end() took is no part of a number", x.text(), -16);
    }

    private static void promise4TextTaken() {
        taken("", 0);
        taken("   ", 0);
        taken("hedge;", 1);
        taken("  plain3 5;close 0 09 ;wide 23 9;spite 00 0;", 4);
        taken("guest15 60;guest 0 0;", 2);
        taken("gate15;hedge 0 23;hedge;hedge 1;", 4);
        MownMaze x = Check.told("spite 4 2; guest 6 30; hedge 1 2; hedge 23; gate 9; wide 5 6;");
        due("gardeners", x.rule(0), 2);
        due("kind 0", x.gardener(0, 0), 1);
        due("taste 0", x.gardener(0, 1), 4);
        due("pace 0", x.gardener(0, 2), 2);
        due("kind 1", x.gardener(1, 0), 3);
        due("at", x.guest(0, 0), 6);
        due("food", x.guest(0, 1), 30);
        due("in", x.guest(0, 2), 0);
        due("hedges", x.rule(4), 3);
        due("hedge 23", x.hedge(23), 1);
        due("gate", x.rule(3), 9);
    }

    private static void promise4TextTellsAll() {
        MownMaze x = Check.told("spite 4 2; guest 6 1; hedge 1 2; gate 9;");
        x.days(3);
        x.see(1, 1, 1);
        x.keep(0);
        x.keep(1);
        x.sheet(0, 1, 7);
        due("empty text", x.text(), 0);
        int[] rules = {0, 0, 0, 0, 0, 0, 0, NONE};
        for (int what = 0; what < 8; what++) {
            due("rule " + what + " behind the empty text", x.rule(what), rules[what]);
        }
        due("seen", x.count(0), 0);
        due("images", x.count(1), 0);
        due("back", x.back(0), STATE);
        due("sheet stays", x.count(3), 7);
    }

    private static void promise5Faults() {
        refused("plain 1 1; @", 11, 1);
        refused("Plain 1 1;", 0, 1);
        refused("gate 100;", 5, 1);
        refused("000", 0, 1);
        refused("gate 1\t;", 6, 1);
        refused("house 1;", 0, 2);
        refused("gates 1;", 0, 2);
        refused("fate 1;", 0, 2);
        refused("z", 0, 2);
        refused("`", 0, 1);
        refused("{", 0, 1);
        refused("/", 0, 1);
        refused(":", 0, 1);
        refused("gat 1;", 0, 2);
        refused("gate1 ;gateway 1;", 7, 2);
        refused("  7 gate;", 2, 2);
        refused(" ;", 1, 2);
        refused("gate 1", 6, 2);
        refused("gate 1  ", 8, 2);
        refused("gate", 4, 2);
        refused("gate;", 4, 2);
        refused("gate gate", 5, 2);
        refused("gate 1 2;", 7, 2);
        refused("hedge 1 hedge;", 8, 2);
        refused("hedge 1 2", 9, 2);
        refused("guest 1;", 7, 2);
        refused("plain 24 @", 6, 3);
        refused("close 1 10;", 8, 3);
        refused("guest 16 1;", 6, 3);
        refused("guest 15 61;", 9, 3);
        refused("hedge 23 24;", 9, 3);
        refused("gate 16;", 5, 3);
        refused("gate 1; gate @", 8, 4);
        refused("hedge 7; hedge 6 07;", 17, 4);
        refused("hedge 7 24 7;", 8, 3);
        refused("plain 1 1;spite 1 1;close 1 1;wide 1 1; close 99 1;", 40, 5);
        refused("guest 1 1;guest 1 1;guest 1 1;guest 1 1;guest @", 40, 5);
        MownMaze x = new MownMaze();
        Check.tell(x, "@");
        due("fault stays", x.fault(), 1);
        Check.tell(x, "gate 1;");
        due("fault is gone", x.fault(), 0);
    }

    private static void promises6To9() {
        MownMaze x = Check.told("plain 3 5; spite 6 1; close 20 7; wide 14 9; guest 0 1; guest 1 0; guest 15 9; hedge 23;");
        due("goal of plain", x.gardener(0, 3), 3);
        due("goal of spite, no last", x.gardener(1, 3), 6);
        due("goal of close", x.gardener(2, 3), 20);
        due("goal of wide", x.gardener(3, 3), 9);
        x.days(1);
        due("day", x.rule(2), 1);
        due("hedges", x.rule(4), 2);
        due("out", x.rule(5), 1);
        due("lost", x.rule(6), 2);
        due("last", x.rule(7), 3);
        due("goal of spite", x.gardener(1, 3), 3);
        due("fate of the first", x.guest(0, 2), 1);
        due("fate of the second", x.guest(1, 2), 2);
        due("fate of the third", x.guest(2, 2), 0);
        due("rule -1", x.rule(-1), BAD);
        due("rule 8", x.rule(8), BAD);
        due("hedge -1", x.hedge(-1), BAD);
        due("hedge 24", x.hedge(24), BAD);
        due("gardener 4", x.gardener(4, 0), BAD);
        due("gardener -1", x.gardener(-1, 0), BAD);
        due("gardener what 4", x.gardener(0, 4), BAD);
        due("gardener what -1", x.gardener(0, -1), BAD);
        due("guest 3", x.guest(3, 0), BAD);
        due("guest -1", x.guest(-1, 0), BAD);
        due("guest what 3", x.guest(0, 3), BAD);
        due("guest what -1", x.guest(0, -1), BAD);
    }

    private static void promise10Way() {
        MownMaze x = new MownMaze();
        due("way 0 0", x.way(0, 0), 0);
        due("way 0 15", x.way(0, 15), 6);
        due("way 3 4", x.way(3, 4), 4);
        due("way 16", x.way(16, 0), BAD);
        due("way -1", x.way(0, -1), BAD);
        for (int row = 0; row < 4; row++) {
            for (int place = 0; place < 3; place++) {
                hedgeIsBetween(3 * row + place, 4 * row + place, 4 * row + place + 1);
            }
        }
        for (int c = 0; c < 12; c++) {
            hedgeIsBetween(12 + c, c, c + 4);
        }
        MownMaze shut = Check.told("hedge 11 23;");
        due("no way", shut.way(0, 15), NONE);
        due("no way back", shut.way(15, 0), NONE);
        due("way to itself", shut.way(15, 15), 0);
        // 0-3, down to 7-4, down to 8-11, down to 15-12: the longest way there is.
        MownMaze snake = Check.told("hedge 12 13 14 17 18 19 20 21 22;");
        due("the snake", snake.way(0, 12), 15);
    }

    private static void hedgeIsBetween(int h, int a, int b) {
        MownMaze x = new MownMaze();
        due("way from " + a + " to " + b, x.way(a, b), 1);
        x.grow(h, 1);
        due("way past hedge " + h, x.way(a, b), 3);
        due("way back past hedge " + h, x.way(b, a), 3);
        for (int other = 0; other < 24; other++) {
            x.grow(other, other == h ? 0 : 1);
        }
        due("way where hedge " + h + " alone is not", x.way(a, b), 1);
    }

    private static void promise11Turn() {
        MownMaze x = Check.told("gate 0;");
        due("turn 5", x.turn(5), 1);
        due("turn 0", x.turn(0), 0);
        due("turn 15", x.turn(15), 11);
        x.grow(13, 1);
        due("turn 5 past a hedge", x.turn(5), 4);
        due("turn 16", x.turn(16), BAD);
        due("turn -1", x.turn(-1), BAD);
        MownMaze y = Check.told("gate 15; hedge 0 12;");
        due("turn where there is no way", y.turn(0), 0);
        due("turn 5 to 15", y.turn(5), 6);
        due("turn 12 to 15", y.turn(12), 13);
    }

    private static void promises12And13() {
        MownMaze x = Check.told("plain 3 5;");
        due("grow 7", x.grow(7, 1), 0);
        due("grow 7 again", x.grow(7, 1), 1);
        due("grow 7 away", x.grow(7, 0), 1);
        due("grow 7 away again", x.grow(7, 0), 0);
        due("last is as it was", x.rule(7), NONE);
        due("grow 24", x.grow(24, 1), BAD);
        due("grow -1", x.grow(-1, 1), BAD);
        due("grow 2", x.grow(0, 2), BAD);
        due("grow to -1", x.grow(0, -1), BAD);
        due("hedges", x.rule(4), 0);
        due("alter kind", x.alter(0, 0, 3), 0);
        due("alter taste", x.alter(0, 1, 23), 3);
        due("alter pace", x.alter(0, 2, 9), 5);
        due("kind", x.gardener(0, 0), 3);
        due("taste", x.gardener(0, 1), 23);
        due("pace", x.gardener(0, 2), 9);
        due("alter kind 4", x.alter(0, 0, 4), BAD);
        due("alter taste 24", x.alter(0, 1, 24), BAD);
        due("alter pace 10", x.alter(0, 2, 10), BAD);
        due("alter -1", x.alter(0, 2, -1), BAD);
        due("alter what 3", x.alter(0, 3, 0), BAD);
        due("alter what -1", x.alter(0, -1, 0), BAD);
        due("alter 1", x.alter(1, 0, 0), BAD);
        due("kind stays", x.gardener(0, 0), 3);
    }

    private static void promises14To16() {
        MownMaze x = new MownMaze();
        due("hire 4", x.hire(4, 0, 0), BAD);
        due("hire taste 24", x.hire(0, 24, 0), BAD);
        due("hire pace 10", x.hire(0, 0, 10), BAD);
        due("hire -1", x.hire(-1, 0, 0), BAD);
        for (int n = 1; n <= 4; n++) {
            due("hire", x.hire(n - 1, 24 - n, n), n);
        }
        due("hire the 5th", x.hire(0, 0, 0), FULL);
        due("hire wrong when full", x.hire(0, 0, -1), BAD);
        due("kind 3", x.gardener(3, 0), 3);
        due("taste 3", x.gardener(3, 1), 20);
        due("pace 3", x.gardener(3, 2), 4);
        due("leave 5", x.leave(5), BAD);
        due("leave -1", x.leave(-1), BAD);
        due("leave 1", x.leave(1), 4);
        due("left", x.rule(0), 1);
        due("leave 2", x.leave(2), BAD);
        due("gardener 1", x.gardener(1, 0), BAD);
        due("leave all", x.leave(1), 1);
        due("leave 0", x.leave(0), 1);
        due("come 16", x.come(16, 0), BAD);
        due("come with 61", x.come(0, 61), BAD);
        due("come with -1", x.come(0, -1), BAD);
        for (int n = 1; n <= 4; n++) {
            due("come", x.come(n + 1, 15 * n), n);
        }
        due("come the 5th", x.come(0, 0), FULL);
        due("come wrong when full", x.come(-1, 0), BAD);
        due("at", x.guest(3, 0), 5);
        due("food", x.guest(3, 1), 60);
        due("in", x.guest(3, 2), 0);
    }

    private static void promises17To19() {
        MownMaze x = Check.told("guest 0 1; guest 5 0;");
        x.days(1);
        due("out", x.guest(0, 2), 1);
        due("lost", x.guest(1, 2), 2);
        due("bread for the lost", x.bread(1, 60), 0);
        due("he stays lost", x.guest(1, 2), 2);
        due("move the lost", x.move(1, 3), 5);
        due("he is in", x.guest(1, 2), 0);
        due("he is there", x.guest(1, 0), 3);
        due("move the out", x.move(0, 15), 0);
        due("he is in too", x.guest(0, 2), 0);
        due("his food", x.guest(0, 1), 0);
        due("move 2", x.move(2, 0), BAD);
        due("move to 16", x.move(0, 16), BAD);
        due("move to -1", x.move(0, -1), BAD);
        due("bread 2", x.bread(2, 0), BAD);
        due("bread 61", x.bread(0, 61), BAD);
        due("bread -1", x.bread(0, -1), BAD);
        due("open 15", x.open(15), 0);
        due("open 16", x.open(16), BAD);
        due("open -1", x.open(-1), BAD);
        due("open 2", x.open(2), 15);
        due("gate", x.rule(3), 2);
    }

    private static void promise20Days() {
        MownMaze x = Check.told("guest 5 9; guest 0 0; guest 0 1;");
        due("days 0", x.days(0), 0);
        due("day", x.rule(2), 0);
        due("days 1", x.days(1), 1);
        due("he went to the first plot", x.guest(0, 0), 1);
        due("his food", x.guest(0, 1), 8);
        due("at the gate without food", x.guest(1, 2), 2);
        due("at the gate with food", x.guest(2, 2), 1);
        due("who was out ate", x.guest(2, 1), 0);
        due("days 2", x.days(2), 1);
        due("food of who is out stays", x.guest(0, 1), 7);
        due("days 31", x.days(31), BAD);
        due("days -1", x.days(-1), BAD);
        for (int i = 0; i < 33; i++) {
            x.days(30);
        }
        due("day", x.rule(2), 993);
        due("days 7", x.days(7), FULL);
        due("day stays", x.rule(2), 993);
        due("days 6", x.days(6), 0);
        due("days 1 at the end", x.days(1), FULL);
        due("days 0 at the end", x.days(0), 0);
        due("days 31 at the end", x.days(31), BAD);
    }

    private static void promise20KindsAtWork() {
        MownMaze x = Check.told("plain 23 2; spite 9 1; close 4 0; wide 19 0; hedge 4;");
        x.days(1);
        due("plain made it stand", x.hedge(23), 1);
        due("his taste goes round", x.gardener(0, 1), 1);
        x.days(1);
        due("spite undid it", x.hedge(23), 0);
        due("his taste goes on", x.gardener(1, 1), 10);
        due("last", x.rule(7), 23);
        x.days(1);
        due("close leaves it", x.hedge(4), 1);
        x.days(1);
        due("wide opens 23 less 19", x.hedge(4), 0);
        due("last", x.rule(7), 4);
        x.days(3);
        due("close shuts it", x.hedge(4), 1);
        due("wide's taste", x.gardener(3, 1), 19);
    }

    private static void promise20OrderOfADay() {
        MownMaze x = Check.told("close 0 0; guest 1 5;");
        x.days(1);
        due("the hedge was there ahead of him", x.guest(0, 0), 5);
        MownMaze shut = Check.told("guest 15 2; hedge 11 23;");
        shut.days(1);
        due("he stays", shut.guest(0, 0), 15);
        due("he eats", shut.guest(0, 1), 1);
        shut.days(1);
        due("in still", shut.guest(0, 2), 0);
        shut.days(1);
        due("lost", shut.guest(0, 2), 2);
        MownMaze left = Check.told("plain 1 0; plain 2 0; plain 3 0;");
        left.days(2);
        left.leave(2);
        left.days(1);
        due("day 2 leaves 0 by 2", left.rule(7), 1);
    }

    private static void promises21To24() {
        MownMaze x = Check.told("plain 3 5; guest 5 9; guest 15 2; guest 0 1; hedge 11 23;");
        due("runs 0", x.runs(0, 0), 0);
        due("runs 1", x.runs(1, 0), 1);
        due("runs 2", x.runs(2, 0), 2);
        due("lost behind 2", x.runs(2, 1), 0);
        due("lost behind 3", x.runs(3, 1), 2);
        due("hedges behind 2", x.runs(2, 2), 4);
        due("last behind 0", x.runs(0, 3), NONE);
        due("last behind 2", x.runs(2, 3), 8);
        due("at behind 1", x.ahead(0, 1, 0), 1);
        due("food behind 1", x.ahead(0, 1, 1), 8);
        due("fate behind 60", x.ahead(1, 60, 2), 2);
        due("hedge 8 behind 1", x.stands(8, 1), 0);
        due("hedge 8 behind 2", x.stands(8, 2), 1);
        due("hedge 23 behind 0", x.stands(23, 0), 1);
        due("out 0", x.out(0), 2);
        due("out 1", x.out(1), NONE);
        due("nothing went on", x.rule(2), 0);
        due("nobody went", x.guest(0, 0), 5);
        x.days(1);
        due("out already", x.out(2), 0);
        due("runs counts who is out", x.runs(0, 0), 1);
        for (int n : new int[] {-1, 61}) {
            due("runs n", x.runs(n, 0), BAD);
            due("ahead n", x.ahead(0, n, 0), BAD);
            due("stands n", x.stands(0, n), BAD);
        }
        for (int wrong : WRONG) {
            due("runs what", x.runs(1, wrong), BAD);
            due("ahead i", x.ahead(wrong, 1, 0), BAD);
            due("ahead what", x.ahead(0, 1, wrong), BAD);
            due("stands h", x.stands(wrong, 1), BAD);
            due("out i", x.out(wrong), BAD);
        }
        due("runs what 4", x.runs(1, 4), BAD);
        due("ahead what 3", x.ahead(0, 1, 3), BAD);
        due("stands 24", x.stands(24, 1), BAD);
        due("out 3", x.out(3), BAD);
    }

    private static void promise24LastDay() {
        // Wide opens 22, 21, ..: 11 on the 12th day; then it is three STEPS past 14 and 10.
        MownMaze x = Check.told("wide 1 1; guest 15 60; hedge 11 23; gate 11;");
        due("it stands behind 11", x.stands(11, 11), 1);
        due("it does not behind 12", x.stands(11, 12), 0);
        due("out by the hedge 11", x.out(0), 14);
        due("with just that food", x.food(0), 14);
        x.bread(0, 13);
        due("with one less", x.out(0), NONE);
        // By turns with another, that hedge is opened on the 23rd day.
        MownMaze late = Check.told("wide 1 1; wide 5 0; guest 15 60; hedge 11 23; gate 11;");
        due("late", late.out(0), 25);
        // Hedge 2 is opened on the 60th day, by the fourth; then on the 61st, by the first.
        MownMaze in60 = Check.told("wide 0 0; wide 0 0; wide 0 0; wide 23 5; guest 3 60; hedge 2 15; gate 2;");
        due("out on the 60th day", in60.out(0), 60);
        due("food for 60 days", in60.food(0), 60);
        in60.bread(0, 59);
        due("not with 59", in60.out(0), NONE);
        MownMaze in61 = Check.told("wide 18 5; wide 0 0; wide 0 0; wide 0 0; guest 3 60; hedge 2 15; gate 2;");
        due("hedge 2 behind 60", in61.stands(2, 60), 1);
        due("not on the 61st day", in61.out(0), NONE);
        due("no food for 61 days", in61.food(0), NONE);
        MownMaze never = Check.told("close 23 0; guest 15 60; hedge 11 23; gate 15;");
        due("at the gate", never.out(0), 1);
        never.open(0);
        due("never", never.out(0), NONE);
        due("by no food", never.food(0), NONE);
    }

    private static void promise25Again() {
        due("no gardeners", new MownMaze().again(), 1);
        due("no last at first", Check.told("plain 5 0;").again(), NONE);
        String[] texts = {"plain 5 0;", "plain 5 1;", "plain 5 8;", "spite 5 8;", "spite 5 1;", "close 5 0;",
            "wide 5 0;", "close 5 8;", "plain 5 9;", "close 0 0; wide 0 0;", "close 0 0; close 1 0; close 2 0;"};
        int[] due = {2, 48, 6, 6, 24, 1, 1, NONE, 16, 2, NONE};
        for (int i = 0; i < texts.length; i++) {
            MownMaze x = Check.told(texts[i]);
            x.days(1);
            due("again of " + texts[i], x.again(), due[i]);
        }
        MownMaze two = Check.told("close 0 0; wide 0 0;");
        two.days(2);
        due("again of two", two.again(), 2);
        MownMaze three = Check.told("close 0 0; close 1 0; close 2 0;");
        three.days(3);
        due("again of three", three.again(), 3);
        MownMaze four = Check.told("close 0 0; close 1 0; close 2 0; close 3 0;");
        four.days(4);
        due("again of four", four.again(), 4);
        MownMaze long48 = Check.told("wide 0 1; wide 0 1;");
        long48.days(1);
        due("again behind 48", long48.again(), 48);
        MownMaze long72 = Check.told("wide 0 1; wide 0 1; wide 0 1;");
        long72.days(1);
        due("72 is too far", long72.again(), NONE);
        MownMaze same = Check.told("close 5 0; close 5 0;");
        same.days(1);
        due("the same gardener", same.again(), 2);
    }

    private static void promise26Cut() {
        MownMaze x = Check.told("hedge 0; guest 1 1; guest 4 0;");
        due("cut", x.cut(1, 0), 0);
        due("cut, how many", x.cut(1, 1), 1);
        due("cut behind 0", x.cut(0, 0), NONE);
        x.bread(0, 3);
        due("cut, none is better", x.cut(3, 0), NONE);
        due("cut, none is better, how many", x.cut(3, 1), NONE);
        due("cut behind 2", x.cut(2, 0), 0);
        MownMaze shut = Check.told("hedge 11 23; guest 15 60;");
        due("the first of two", shut.cut(60, 0), 11);
        due("cuts -1", x.cut(-1, 0), BAD);
        due("cuts 61", x.cut(61, 0), BAD);
        due("cuts what 2", x.cut(1, 2), BAD);
        due("cuts what -1", x.cut(1, -1), BAD);
        MownMaze closing = Check.told("plain 0 0; guest 1 1;");
        due("a hedge that is to stand, for plain opens it", closing.cut(1, 0), 0);
        due("nothing was changed", closing.rule(4), 0);
    }

    private static void promise27Door() {
        MownMaze x = Check.told("guest 9 1; gate 3;");
        due("door", x.door(1, 0), 5);
        due("door, how many", x.door(1, 1), 1);
        due("door behind 0", x.door(0, 0), 0);
        due("door behind 0, how many", x.door(0, 1), 0);
        x.come(11, 1);
        due("door between", x.door(1, 0), 10);
        due("door between, how many", x.door(1, 1), 2);
        due("door -1", x.door(-1, 0), BAD);
        due("door 61", x.door(61, 0), BAD);
        due("door what", x.door(1, 2), BAD);
        due("gate stays", x.rule(3), 3);
    }

    private static void promise28Food() {
        MownMaze x = Check.told("guest 5 0; guest 0 1; guest 3 0; guest 0 9;");
        due("food", x.food(0), 2);
        due("food at the gate", x.food(1), 1);
        due("food stays", x.guest(0, 1), 0);
        x.days(1);
        due("lost", x.food(2), STATE);
        due("out", x.food(3), STATE);
        due("food 4", x.food(4), BAD);
        due("food -1", x.food(-1), BAD);
        // Close shuts hedge 23 each other day and wide opens it between: in time for whoever waits.
        MownMaze late = Check.told("hedge 11 23; close 23 0; wide 0 0; guest 15 0; gate 11;");
        due("food for waiting", late.food(0), 2);
        MownMaze longest = Check.told("hedge 12 13 14 17 18 19 20 21 22; guest 12 0;");
        due("food for the longest way", longest.food(0), 15);
    }

    private static void promise29Sack() {
        MownMaze x = Check.told("close 0 0; guest 1 1;");
        due("sack", x.sack(1, 0), 0);
        due("sack, how many", x.sack(1, 1), 1);
        due("sack behind 0", x.sack(0, 0), NONE);
        due("nobody to sack", Check.told("guest 1 1;").sack(1, 0), NONE);
        MownMaze second = Check.told("close 20 0; close 0 0; guest 2 2;");
        due("sack the second", second.sack(2, 0), 1);
        // Without the first, LAST is none on the second's day: spite shuts by taste, not by LAST.
        MownMaze spite = Check.told("close 20 0; spite 0 0; guest 2 2;");
        due("nobody is better at home", spite.sack(2, 0), NONE);
        due("sack -1", x.sack(-1, 0), BAD);
        due("sack 61", x.sack(61, 0), BAD);
        due("sack what", x.sack(1, 2), BAD);
    }

    private static void promise30Swap() {
        MownMaze x = Check.told("close 0 0; wide 0 0; guest 1 1;");
        due("swap", x.swap(1, 0), 1);
        due("swap, how many", x.swap(1, 1), 1);
        MownMaze three = Check.told("wide 0 0; close 0 0; wide 1 0; guest 2 2;");
        due("swap the last two", three.swap(2, 0), 12);
        due("swap behind 0", three.swap(0, 0), NONE);
        due("nothing was changed", three.gardener(1, 0), 2);
        // Each has to come to the other's place: 1 to 2 is opened first, then 0 to 1.
        MownMaze both = Check.told("wide 23 0; wide 22 0; hedge 0 1; guest 2 9;");
        due("swap, both count", both.swap(2, 0), 1);
        // The second opens 1 to 2, then by his pace 0 to 1; as it is, he has but one day of three.
        MownMaze paced = Check.told("wide 0 0; wide 22 1; hedge 0 12; guest 1 9;");
        due("swap, the pace goes along", paced.swap(3, 0), 1);
        MownMaze alone = Check.told("close 0 0; wide 0 0; guest 1 1;");
        alone.leave(1);
        due("not with one who has left", alone.swap(1, 0), NONE);
        due("swap of one", Check.told("close 0 0; guest 1 1;").swap(1, 0), NONE);
        due("swap -1", x.swap(-1, 0), BAD);
        due("swap 61", x.swap(61, 0), BAD);
        due("swap what", x.swap(1, 2), BAD);
    }

    private static void promise31Kind() {
        MownMaze x = Check.told("close 0 0; guest 1 1;");
        due("kind", x.kind(0, 1, 0), 3);
        due("kind, how many", x.kind(0, 1, 1), 1);
        due("kind behind 0", x.kind(0, 0, 0), 0);
        due("kind behind 0, how many", x.kind(0, 0, 1), 0);
        due("kind stays", x.gardener(0, 0), 2);
        x.grow(0, 1);
        due("plain opens it", x.kind(0, 1, 0), 0);
        due("kind 1", x.kind(1, 1, 0), BAD);
        due("kind -1", x.kind(-1, 1, 0), BAD);
        due("kind n -1", x.kind(0, -1, 0), BAD);
        due("kind n 61", x.kind(0, 61, 0), BAD);
        due("kind what", x.kind(0, 1, 2), BAD);
    }

    private static void fraction(MownMaze x, int v, int n, long part, long whole) {
        due("luck " + v + " " + n, x.luck(v, 0, n, 0), part);
        due("luck by " + v + " " + n, x.luck(v, 0, n, 1), whole);
    }

    private static void promise32Luck() {
        MownMaze x = Check.told("close 0 0; guest 1 9;");
        fraction(x, 3, 1, 3, 10);
        fraction(x, 5, 1, 1, 2);
        fraction(x, 1, 1, 1, 10);
        fraction(x, 0, 1, 0, 1);
        fraction(x, 10, 1, 1, 1);
        fraction(x, 4, 0, 0, 1);
        fraction(x, 4, 2, 2, 5);
        fraction(x, 4, 3, 1, 1);
        fraction(x, 4, 8, 1, 1);
        // He is OUT by two dry days of plain alone: shut on the first that is dry, opened by the next.
        MownMaze toggled = Check.told("plain 0 0; guest 0 1; guest 3 2; gate 3; hedge 2 15;");
        due("he waits for no hedge", toggled.luck(5, 1, 1, 0), 1);
        MownMaze shut = Check.told("wide 0 0; guest 15 60; gate 11; hedge 11 23;");
        fraction(shut, 5, 8, 255, 256);
        fraction(shut, 9, 8, 56953279, 100000000);
        // Rain takes the gardener's day: the second's day stays the second's.
        MownMaze two = Check.told("plain 9 0; wide 0 0; guest 15 60; gate 11; hedge 11 23;");
        fraction(two, 3, 1, 0, 1);
        fraction(two, 3, 2, 7, 10);
        due("luck v 11", x.luck(11, 0, 1, 0), BAD);
        due("luck v -1", x.luck(-1, 0, 1, 0), BAD);
        due("luck i 1", x.luck(1, 1, 1, 0), BAD);
        due("luck i -1", x.luck(1, -1, 1, 0), BAD);
        due("luck n 9", x.luck(1, 0, 9, 0), BAD);
        due("luck n -1", x.luck(1, 0, -1, 0), BAD);
        due("luck what 2", x.luck(1, 0, 1, 2), BAD);
        due("luck what -1", x.luck(1, 0, 1, -1), BAD);
        due("nothing went on", x.rule(2), 0);
    }

    private static void promise33Mean() {
        MownMaze x = Check.told("close 0 0; guest 1 9; guest 1 9; guest 4 1;");
        due("mean", x.mean(3, 1, 0), 8);
        due("mean by", x.mean(3, 1, 1), 5);
        due("mean of 0 days", x.mean(3, 0, 0), 0);
        due("mean of 0 days by", x.mean(3, 0, 1), 1);
        due("mean without guests", new MownMaze().mean(3, 8, 0), 0);
        due("mean without guests by", new MownMaze().mean(3, 8, 1), 1);
        x.days(1);
        due("who is out counts", x.mean(0, 0, 0), 1);
        due("mean v 11", x.mean(11, 1, 0), BAD);
        due("mean v -1", x.mean(-1, 1, 0), BAD);
        due("mean n 9", x.mean(1, 9, 0), BAD);
        due("mean n -1", x.mean(1, -1, 0), BAD);
        due("mean what", x.mean(1, 1, 2), BAD);
    }

    private static void promises34And35() {
        MownMaze x = new MownMaze();
        for (int n = 1; n <= 6; n++) {
            due("see", x.see(20, 23, 1), n);
        }
        due("see the 7th", x.see(0, 0, 0), FULL);
        due("see wrong when full", x.see(21, 0, 0), BAD);
        due("forget 7", x.forget(7), BAD);
        due("forget -1", x.forget(-1), BAD);
        due("forget 2", x.forget(2), 6);
        due("seen", x.count(0), 2);
        due("forget none", x.forget(2), 2);
        due("see -1", x.see(-1, 0, 0), BAD);
        due("see 24", x.see(0, 24, 0), BAD);
        due("see h -1", x.see(0, -1, 0), BAD);
        due("see 2", x.see(0, 0, 2), BAD);
        due("see v -1", x.see(0, 0, -1), BAD);
        due("forget 0", x.forget(0), 2);
    }

    private static void promises36And37() {
        MownMaze x = Check.told("plain 3 5;");
        due("kinds of nothing seen", x.kinds(0), 15);
        due("tastes of nothing seen", x.tastes(0), 0xFFFFFF);
        x.see(1, 3, 1);
        due("kinds", x.kinds(0), 7);
        due("tastes", x.tastes(0), 8);
        x.see(2, 8, 1);
        due("kinds of two", x.kinds(0), 5);
        x.see(0, 9, 1);
        due("kinds of none", x.kinds(0), 0);
        due("tastes of none", x.tastes(0), 0);
        x.forget(0);
        x.see(1, 3, 0);
        due("all but one taste", x.tastes(0), 0xFFFFF7);
        due("wide alone", x.kinds(0), 8);
        x.days(1);
        due("seen is from now on: 3 stands", x.tastes(0), 8);
        MownMaze four = Check.told("wide 0 0; wide 0 0; wide 0 0; plain 0 1;");
        four.see(20, 0, 1);
        due("the last day to see", four.tastes(3), 0xF00001);
        due("kinds 1", x.kinds(1), BAD);
        due("kinds -1", x.kinds(-1), BAD);
        due("tastes 1", x.tastes(1), BAD);
        due("tastes -1", x.tastes(-1), BAD);
    }

    private static void promise38Ask() {
        MownMaze x = Check.told("plain 3 0;");
        due("ask", x.ask(0, 0), 100);
        due("ask, how many", x.ask(0, 1), 23);
        x.see(1, 0, 0);
        due("ask at the next hedge", x.ask(0, 0), 101);
        due("ask at the next hedge, how many", x.ask(0, 1), 22);
        x.forget(0);
        MownMaze four = Check.told("wide 0 0; wide 0 0; wide 0 0; plain 0 1;");
        due("ask on the last day", four.ask(3, 0), 2000);
        due("ask on the last day, how many", four.ask(3, 1), 19);
        x.alter(0, 2, 1);
        due("ask in the middle", x.ask(0, 0), 1200);
        due("ask in the middle, how many", x.ask(0, 1), 12);
        x.see(12, 5, 1);
        due("half of them", Integer.bitCount(x.tastes(0)), 12);
        due("ask the half, how many", x.ask(0, 1), 6);
        x.see(1, 7, 1);
        due("none is left", x.tastes(0), 0);
        due("none is left to ask", x.ask(0, 0), NONE);
        due("none is left to ask, how many", x.ask(0, 1), NONE);
        MownMaze same = Check.told("wide 3 0;");
        due("no hedge to open, nothing to tell", same.ask(0, 0), NONE);
        due("ask 1", x.ask(1, 0), BAD);
        due("ask -1", x.ask(-1, 0), BAD);
        due("ask what 2", x.ask(0, 2), BAD);
        due("ask what -1", x.ask(0, -1), BAD);
    }

    private static void promise39Drift() {
        MownMaze x = Check.told("guest 1 1;");
        due("drift by hedge 0", x.drift(0, 1, 0), 0);
        due("hedges", x.drift(0, 1, 1), 1);
        due("drift by hedge 14", x.drift(1, 1, 0), 1);
        x.grow(14, 1);
        due("hedges, 14 is opened", x.drift(1, 1, 1), 0);
        due("nothing is changed", x.rule(4), 1);
        due("nobody went", x.rule(2), 0);
        due("drift n 0", x.drift(1, 0, 0), BAD);
        due("drift n 61", x.drift(1, 61, 0), BAD);
        due("drift what 2", x.drift(1, 1, 2), BAD);
        due("drift what -1", x.drift(1, 1, -1), BAD);
        MownMaze empty = new MownMaze();
        due("drift of nobody", empty.drift(1, 1, 0), STATE);
        due("drift of nobody, wrong", empty.drift(1, 0, 0), BAD);
        x.move(0, 2);
        x.bread(0, 9);
        due("a day for each", x.drift(1, 1, 0), 0);
        for (int seed : new int[] {0, 1, -3, 77, 123456789, Integer.MIN_VALUE, Integer.MAX_VALUE}) {
            for (int n : new int[] {1, 2, 7, 59, 60}) {
                due("hedges by seed " + seed + ", days " + n, x.drift(seed, n, 1), drifted(1 << 14, seed, n));
            }
        }
    }

    private static int drifted(int from, int first, int n) {
        long seed = first;
        int hedges = from;
        for (int d = 0; d < n; d++) {
            seed = (seed * 1103515245L + 12345L) & 0xFFFFFFFFL;
            hedges ^= 1 << (int) ((seed >> 16 & 0x7FFF) % 24);
        }
        return Integer.bitCount(hedges);
    }

    private static void promises40And41() {
        MownMaze x = Check.told("plain 3 5; guest 5 9; hedge 7; gate 1;");
        x.see(0, 0, 0);
        due("back ahead of keep", x.back(0), STATE);
        due("keep -1", x.keep(-1), BAD);
        due("keep 2", x.keep(2), BAD);
        x.days(1);
        due("keep", x.keep(0), 0);
        due("images", x.count(1), 1);
        due("keep again", x.keep(0), 1);
        x.days(9);
        x.grow(20, 1);
        x.alter(0, 0, 3);
        x.alter(0, 2, 9);
        x.hire(1, 1, 1);
        x.come(9, 9);
        x.move(0, 15);
        x.bread(0, 60);
        x.open(14);
        x.see(0, 1, 0);
        due("keep 1", x.keep(1), 0);
        due("images", x.count(1), 2);
        due("back", x.back(0), 1);
        int[] rules = {1, 1, 1, 1, 2, 1, 0, 3};
        for (int what = 0; what < 8; what++) {
            due("rule " + what + " behind back", x.rule(what), rules[what]);
        }
        due("kind", x.gardener(0, 0), 0);
        due("taste", x.gardener(0, 1), 8);
        due("pace", x.gardener(0, 2), 5);
        due("food", x.guest(0, 1), 8);
        due("hedge 7", x.hedge(7), 1);
        due("seen stays", x.count(0), 2);
        due("back 1", x.back(1), 10);
        due("guests", x.rule(1), 2);
        due("back -1", x.back(-1), BAD);
        due("back 2", x.back(2), BAD);
    }

    private static void promises42And43() {
        MownMaze x = new MownMaze();
        due("sheet -1", x.sheet(-1, 0, 1), BAD);
        due("sheet 4", x.sheet(4, 0, 1), BAD);
        due("sheet lane 3", x.sheet(0, 3, 1), BAD);
        due("sheet lane -1", x.sheet(0, -1, -1), BAD);
        due("sheet n 41", x.sheet(0, 0, 41), BAD);
        due("sheet n -1", x.sheet(0, 0, -1), -14);
        due("sheet 9 n -1", x.sheet(9, 0, -1), BAD);
        due("no sheet yet", x.count(3), NONE);
        due("sheet", x.sheet(0, 0, 40), 1);
        due("cells", x.count(3), 40);
        due("lay 39", x.lay(0, 39, 1), 1);
        due("lay 40", x.lay(0, 40, 1), -12);
        due("lay -1", x.lay(0, -1, 1), -12);
        due("lay on nothing", x.lay(1, -1, 1), -11);
        due("lay 4", x.lay(4, 0, 1), BAD);
        due("lay -1", x.lay(-1, 0, 1), BAD);
        due("a refused sheet", x.sheet(0, 0, -1), -14);
        due("leaves what was", x.count(3), 40);
        due("sheet of none", x.sheet(0, 2, 0), 1);
        due("no cells", x.count(3), 0);
        due("lay on none", x.lay(0, 0, 1), -12);
        x.sheet(3, 0, 2);
        x.lay(3, 0, 9);
        x.lay(3, 1, 1);
        x.sheet(3, 0, 2);
        x.grow(0, 1);
        due("new cells are 0", x.read(3, 0, 0, 1), 1);
        due("hedge 0 was told by them", x.hedge(0), 0);
        due("hedge 9 was not", x.hedge(9), 0);
    }

    private static void promise43LowestBits() {
        int[] laid = {5, 256 + 5, 65536 + 5};
        int[][] read = {{1, 1, 1}, {1, -20, 1}, {1, -20, -20}};
        MownMaze x = new MownMaze();
        for (int lane = 0; lane < 3; lane++) {
            for (int i = 0; i < laid.length; i++) {
                x.sheet(2, lane, 2);
                x.lay(2, 0, laid[i]);
                x.lay(2, 1, 1);
                due("lane " + lane + " of " + laid[i], x.read(2, lane, 0, 1), read[lane][i]);
            }
        }
        x.sheet(2, 0, 2);
        x.lay(2, 0, 128);
        due("128 is -128 as a byte", x.read(2, 0, 0, 1), -20);
        x.sheet(2, 2, 2);
        x.lay(2, 0, Integer.MIN_VALUE);
        due("the least int", x.read(2, 2, 0, 1), -20);
    }

    private static MownMaze withPairs(int... cells) {
        MownMaze x = new MownMaze();
        x.sheet(1, 1, cells.length);
        for (int i = 0; i < cells.length; i++) {
            x.lay(1, i, cells[i]);
        }
        return x;
    }

    private static void promises44And45() {
        MownMaze x = withPairs(2, 1, 9, 1, 2, 0, 24, 0, 7);
        due("read two", x.read(1, 1, 0, 2), 2);
        due("hedges", x.rule(4), 2);
        due("read one behind another", x.read(1, 1, 0, 3), 3);
        due("hedge 2", x.hedge(2), 0);
        x.grow(9, 0);
        due("read four", x.read(1, 1, 0, 4), -23);
        due("none came", x.rule(4), 0);
        due("torn stays 0", x.torn(), 0);
        due("read torn", x.read(1, 1, 8, 1), 0);
        due("torn by index", x.torn(), 2);
        due("refused", x.read(1, 1, 6, 1), -20);
        due("torn stays", x.torn(), 2);
        due("bad", x.read(1, 1, 0, 21), BAD);
        due("torn stays still", x.torn(), 2);
        due("as bytes", x.read(1, 0, 0, 1), 0);
        due("torn by cast", x.torn(), 3);
        due("as ints, outside", x.read(1, 2, -7, 1), 0);
        due("cast is ahead of index", x.torn(), 3);
        due("nothing there", x.read(0, 1, 0, 1), 0);
        due("torn by null", x.torn(), 1);
        due("nothing of nothing", x.read(0, 1, 0, 0), 0);
        due("no fault", x.torn(), 0);
        due("nothing of another lane", x.read(1, 2, 99, 0), 0);
        due("no fault still", x.torn(), 0);
        for (int f : WRONG) {
            due("read from " + f, x.read(1, 1, f, 20), 0);
            due("torn from " + f, x.torn(), 2);
        }
        due("read k 4", x.read(4, 1, 0, 1), BAD);
        due("read k -1", x.read(-1, 1, 0, 1), BAD);
        due("read lane 3", x.read(1, 3, 0, 1), BAD);
        due("read lane -1", x.read(1, -1, 0, 1), BAD);
        due("read n -1", x.read(1, 1, 0, -1), BAD);
        MownMaze y = withPairs(2, 1, 9, 1, 24);
        due("those ahead came", y.read(1, 1, 0, 9), 2);
        due("hedges", y.rule(4), 2);
        due("torn", y.torn(), 2);
        MownMaze z = withPairs(2, 1, 9, 2);
        due("neither 0 nor 1", z.read(1, 1, 0, 9), -21);
        due("none came", z.rule(4), 0);
        due("last is none", y.rule(7), NONE);
    }

    private static void promise46Count() {
        MownMaze x = Check.told("plain 3 5; wide 3 9; guest 5 9; guest 0 1; guest 1 0;");
        due("food", x.count(4), 10);
        due("paces", x.count(5), 14);
        x.days(1);
        due("food of those who are out or lost counts", x.count(4), 8);
        x.leave(1);
        due("paces of one", x.count(5), 5);
        due("count -1", x.count(-1), BAD);
        due("count 6", x.count(6), BAD);
        x.feed(1);
        due("tape", x.count(2), 1);
    }

    public static void main(String[] args) {
        promise1New();
        promise2Feed();
        promise3End();
        promise4TextTaken();
        promise4TextTellsAll();
        promise5Faults();
        promises6To9();
        promise10Way();
        promise11Turn();
        promises12And13();
        promises14To16();
        promises17To19();
        promise20Days();
        promise20KindsAtWork();
        promise20OrderOfADay();
        promises21To24();
        promise24LastDay();
        promise25Again();
        promise26Cut();
        promise27Door();
        promise28Food();
        promise29Sack();
        promise30Swap();
        promise31Kind();
        promise32Luck();
        promise33Mean();
        promises34And35();
        promises36And37();
        promise38Ask();
        promise39Drift();
        promises40And41();
        promises42And43();
        promise43LowestBits();
        promises44And45();
        promise46Count();
        CHECK.finish();
    }
}
