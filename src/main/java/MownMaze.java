import java.util.Arrays;

/** A maze whose hedges its gardeners change day by day, as shared/DOC.md promises. */
public final class MownMaze {
    public static final int BAD = -1, STATE = -2, FULL = -3, NONE = -4;

    private static final int PLOTS = 16, HEDGES = 24, GARDENERS = 4, GUESTS = 4;
    private static final int KINDS = 4, PACES = 10, MOST_FOOD = 60;
    private static final int PLAIN = 0, SPITE = 1, CLOSE = 2, WIDE = 3;
    private static final int IN = 0, OUT = 1, LOST = 2;
    private static final int TAPE = 160, SEEN = 6, IMAGES = 2, SHEETS = 4, CELLS = 40;
    private static final int DAYS_ONCE = 30, DAYS_EVER = 1000, DAYS_AHEAD = 60;
    private static final int DAYS_SEEN = 20, DAYS_RAIN = 8, TENTHS = 10, PAIRS = 20;
    private static final int FAULT_NULL = 1, FAULT_INDEX = 2, FAULT_CAST = 3, FAULT_SIZE = 4;

    private final Reader reader = new Reader();
    private final Maze maze = new Maze();
    // Every question that begins "as it would be" is played here, so that no call makes objects.
    private final Maze trial = new Maze();
    private final Maze told = new Maze();
    private final Maze[] rainy = new Maze[DAYS_RAIN + 1];
    private final Maze[] images = new Maze[IMAGES];
    private final boolean[] kept = new boolean[IMAGES];
    private final Sheet[] sheets = new Sheet[SHEETS];
    private final Seen seen = new Seen();
    private final Best best = new Best();
    private int fault = 0;
    private int torn = 0;

    public MownMaze() {
        for (int i = 0; i < rainy.length; i++) {
            rainy[i] = new Maze();
        }
        for (int k = 0; k < IMAGES; k++) {
            images[k] = new Maze();
        }
        for (int k = 0; k < SHEETS; k++) {
            sheets[k] = new Sheet();
        }
    }

    // ---- the text, what there is

    public int feed(int c) {
        if (c < 0 || c > 127) {
            return BAD;
        }
        return reader.append(c) ? reader.length : FULL;
    }

    public int end(int n) {
        if (n < 0 || n > reader.length) {
            return BAD;
        }
        int had = reader.length;
        reader.length = n;
        return had;
    }

    public int text() {
        told.restart();
        int lines = reader.readLines(told);
        reader.length = 0;
        fault = reader.fault;
        if (fault != 0) {
            return -10 - reader.start;
        }
        maze.become(told);
        seen.size = 0;
        kept[0] = false;
        kept[1] = false;
        return lines;
    }

    public int fault() {
        return fault;
    }

    public int rule(int what) {
        switch (what) {
            case 0: return maze.gardeners;
            case 1: return maze.guests;
            case 2: return maze.day;
            case 3: return maze.gate;
            case 4: return Integer.bitCount(maze.hedges);
            case 5: return maze.whoIs(OUT);
            case 6: return maze.whoIs(LOST);
            case 7: return maze.last;
            default: return BAD;
        }
    }

    public int hedge(int h) {
        return isHedge(h) ? maze.standing(h) : BAD;
    }

    public int gardener(int g, int what) {
        if (!isGardener(g) || what < 0 || what > 3) {
            return BAD;
        }
        return what == 3 ? maze.goal(g) : maze.trait(what)[g];
    }

    public int guest(int i, int what) {
        return isGuest(i) && what >= 0 && what <= 2 ? maze.lot(what)[i] : BAD;
    }

    public int way(int a, int b) {
        return isPlot(a) && isPlot(b) ? Plots.steps(maze.hedges, a, b) : BAD;
    }

    public int turn(int a) {
        return isPlot(a) ? Plots.toward(maze.hedges, a, maze.gate) : BAD;
    }

    // ---- what is changed

    public int grow(int h, int v) {
        if (!isHedge(h) || !isBit(v)) {
            return BAD;
        }
        int was = maze.standing(h);
        maze.hedges = Plots.with(maze.hedges, h, v);
        return was;
    }

    public int alter(int g, int what, int v) {
        if (!isGardener(g) || what < 0 || what > 2 || !Maze.isTrait(what, v)) {
            return BAD;
        }
        int was = maze.trait(what)[g];
        maze.trait(what)[g] = v;
        return was;
    }

    public int hire(int kind, int taste, int pace) {
        if (!Maze.isTrait(0, kind) || !Maze.isTrait(1, taste) || !Maze.isTrait(2, pace)) {
            return BAD;
        }
        return maze.addGardener(kind, taste, pace) ? maze.gardeners : FULL;
    }

    public int leave(int n) {
        if (n < 0 || n > maze.gardeners) {
            return BAD;
        }
        int were = maze.gardeners;
        maze.gardeners = n;
        return were;
    }

    public int come(int c, int food) {
        if (!isPlot(c) || !isFood(food)) {
            return BAD;
        }
        return maze.addGuest(c, food) ? maze.guests : FULL;
    }

    public int move(int i, int c) {
        if (!isGuest(i) || !isPlot(c)) {
            return BAD;
        }
        int was = maze.at[i];
        maze.at[i] = c;
        maze.fate[i] = IN;
        return was;
    }

    public int bread(int i, int v) {
        if (!isGuest(i) || !isFood(v)) {
            return BAD;
        }
        int was = maze.food[i];
        maze.food[i] = v;
        return was;
    }

    public int open(int c) {
        if (!isPlot(c)) {
            return BAD;
        }
        int was = maze.gate;
        maze.gate = c;
        return was;
    }

    // ---- days

    public int days(int n) {
        if (n < 0 || n > DAYS_ONCE) {
            return BAD;
        }
        if (maze.day + n >= DAYS_EVER) {
            return FULL;
        }
        int were = maze.outs();
        maze.passDays(n);
        return maze.outs() - were;
    }

    public int runs(int n, int what) {
        if (!isAhead(n) || what < 0 || what > 3) {
            return BAD;
        }
        trial.become(maze);
        trial.passDays(n);
        switch (what) {
            case 0: return trial.outs();
            case 1: return trial.whoIs(LOST);
            case 2: return Integer.bitCount(trial.hedges);
            default: return trial.last;
        }
    }

    public int ahead(int i, int n, int what) {
        if (!isGuest(i) || !isAhead(n) || what < 0 || what > 2) {
            return BAD;
        }
        trial.become(maze);
        trial.passDays(n);
        return trial.lot(what)[i];
    }

    public int stands(int h, int n) {
        if (!isHedge(h) || !isAhead(n)) {
            return BAD;
        }
        trial.become(maze);
        trial.passDays(n);
        return trial.standing(h);
    }

    public int out(int i) {
        if (!isGuest(i)) {
            return BAD;
        }
        trial.become(maze);
        return daysTillOut(i);
    }

    public int again() {
        trial.become(maze);
        for (int d = 1; d <= DAYS_AHEAD; d++) {
            trial.passDayOfGardeners();
            if (trial.isMownLike(maze)) {
                return d;
            }
        }
        return NONE;
    }

    // ---- what is best

    public int cut(int n, int what) {
        if (!isAhead(n) || !isBit(what)) {
            return BAD;
        }
        best.above(outsAsItIs(n));
        for (int h = 0; h < HEDGES; h++) {
            trial.become(maze);
            trial.hedges = Plots.changed(trial.hedges, h);
            best.offer(h, trial.outsBehind(n));
        }
        return best.told(what);
    }

    public int door(int n, int what) {
        if (!isAhead(n) || !isBit(what)) {
            return BAD;
        }
        best.above(-1);
        for (int c = 0; c < PLOTS; c++) {
            trial.become(maze);
            trial.gate = c;
            best.offer(c, trial.outsBehind(n));
        }
        return best.told(what);
    }

    public int food(int i) {
        if (!isGuest(i)) {
            return BAD;
        }
        if (maze.fate[i] != IN) {
            return STATE;
        }
        // His way does not depend on his food, and each day takes one: so the days are the food.
        trial.become(maze);
        trial.food[i] = MOST_FOOD;
        return daysTillOut(i);
    }

    public int sack(int n, int what) {
        if (!isAhead(n) || !isBit(what)) {
            return BAD;
        }
        best.above(outsAsItIs(n));
        for (int g = 0; g < maze.gardeners; g++) {
            trial.become(maze);
            best.offer(g, trial.outsWithout(g, n));
        }
        return best.told(what);
    }

    public int swap(int n, int what) {
        if (!isAhead(n) || !isBit(what)) {
            return BAD;
        }
        best.above(outsAsItIs(n));
        for (int a = 0; a < maze.gardeners; a++) {
            for (int b = a + 1; b < maze.gardeners; b++) {
                trial.become(maze);
                trial.exchange(a, b);
                best.offer(10 * a + b, trial.outsBehind(n));
            }
        }
        return best.told(what);
    }

    public int kind(int g, int n, int what) {
        if (!isGardener(g) || !isAhead(n) || !isBit(what)) {
            return BAD;
        }
        best.above(-1);
        for (int kind = 0; kind < KINDS; kind++) {
            trial.become(maze);
            trial.kind[g] = kind;
            best.offer(kind, trial.outsBehind(n));
        }
        return best.told(what);
    }

    // ---- rain

    public long luck(int v, int i, int n, int what) {
        if (!isTenths(v) || !isGuest(i) || !isRainy(n) || !isBit(what)) {
            return BAD;
        }
        return chance(v, 1 << i, n, what);
    }

    public long mean(int v, int n, int what) {
        if (!isTenths(v) || !isRainy(n) || !isBit(what)) {
            return BAD;
        }
        return chance(v, (1 << GUESTS) - 1, n, what);
    }

    // ---- what it was

    public int see(int n, int h, int v) {
        if (n < 0 || n > DAYS_SEEN || !isHedge(h) || !isBit(v)) {
            return BAD;
        }
        return seen.note(n, h, v) ? seen.size : FULL;
    }

    public int forget(int n) {
        if (n < 0 || n > seen.size) {
            return BAD;
        }
        int were = seen.size;
        seen.size = n;
        return were;
    }

    public int kinds(int g) {
        if (!isGardener(g)) {
            return BAD;
        }
        int bits = 0;
        for (int kind = 0; kind < KINDS; kind++) {
            trial.become(maze);
            trial.kind[g] = kind;
            if (seen.fits(trial)) {
                bits |= 1 << kind;
            }
        }
        return bits;
    }

    public int tastes(int g) {
        if (!isGardener(g)) {
            return BAD;
        }
        int bits = 0;
        for (int taste = 0; taste < HEDGES; taste++) {
            if (isTasteAsSeen(g, taste)) {
                bits |= 1 << taste;
            }
        }
        return bits;
    }

    public int ask(int g, int what) {
        if (!isGardener(g) || !isBit(what)) {
            return BAD;
        }
        seen.clearVotes();
        int all = 0;
        for (int taste = 0; taste < HEDGES; taste++) {
            if (isTasteAsSeen(g, taste)) {
                seen.vote();
                all++;
            }
        }
        int fewest = all;
        int which = NONE;
        for (int d = 0; d <= DAYS_SEEN; d++) {
            for (int h = 0; h < HEDGES; h++) {
                int standing = seen.votes[d * HEDGES + h];
                int worst = Math.max(standing, all - standing);
                if (worst < fewest) {
                    fewest = worst;
                    which = 100 * d + h;
                }
            }
        }
        return which == NONE || what == 0 ? which : fewest;
    }

    // ---- by a seed

    public int drift(int seed, int n, int what) {
        if (n < 1 || n > DAYS_AHEAD || !isBit(what)) {
            return BAD;
        }
        if (maze.guests == 0) {
            return STATE;
        }
        trial.become(maze);
        int now = seed;
        for (int d = 0; d < n; d++) {
            now = now * 1103515245 + 12345;
            int got = (now >>> 16) & 0x7FFF;
            trial.hedges = Plots.changed(trial.hedges, got % HEDGES);
            trial.passDays(1);
        }
        return what == 0 ? trial.outs() : Integer.bitCount(trial.hedges);
    }

    // ---- images, sheets

    public int keep(int k) {
        if (!isImage(k)) {
            return BAD;
        }
        int was = kept[k] ? 1 : 0;
        images[k].become(maze);
        kept[k] = true;
        return was;
    }

    public int back(int k) {
        if (!isImage(k)) {
            return BAD;
        }
        if (!kept[k]) {
            return STATE;
        }
        maze.become(images[k]);
        return maze.day;
    }

    public int sheet(int k, int lane, int n) {
        if (!isSheet(k) || !isLane(lane) || n > CELLS) {
            return BAD;
        }
        if (n < 0) {
            return -10 - FAULT_SIZE;
        }
        sheets[k].renew(lane, n);
        return 1;
    }

    public int lay(int k, int i, int v) {
        if (!isSheet(k)) {
            return BAD;
        }
        Sheet sheet = sheets[k];
        int refused = sheet.faultAt(sheet.lane, i);
        if (refused != 0) {
            return -10 - refused;
        }
        sheet.put(i, v);
        return 1;
    }

    public int read(int k, int lane, int f, int n) {
        if (!isSheet(k) || !isLane(lane) || n < 0 || n > PAIRS) {
            return BAD;
        }
        Sheet sheet = sheets[k];
        int grown = maze.hedges;
        int refused = 0;
        int came = 0;
        while (came < n) {
            refused = sheet.faultOfPair(lane, f + 2 * came);
            if (refused != 0) {
                break;
            }
            int h = sheet.cells[f + 2 * came];
            int v = sheet.cells[f + 2 * came + 1];
            if (!isHedge(h) || !isBit(v)) {
                return -20 - came;
            }
            grown = Plots.with(grown, h, v);
            came++;
        }
        maze.hedges = grown;
        torn = refused;
        return came;
    }

    public int torn() {
        return torn;
    }

    public int count(int what) {
        switch (what) {
            case 0: return seen.size;
            case 1: return (kept[0] ? 1 : 0) + (kept[1] ? 1 : 0);
            case 2: return reader.length;
            case 3: return sheets[0].made ? sheets[0].size : NONE;
            case 4: return sumOf(maze.food, maze.guests);
            case 5: return sumOf(maze.pace, maze.gardeners);
            default: return BAD;
        }
    }

    // ---- what numbers may be

    private static boolean isPlot(int c) {
        return c >= 0 && c < PLOTS;
    }

    private static boolean isHedge(int h) {
        return h >= 0 && h < HEDGES;
    }

    private static boolean isFood(int v) {
        return v >= 0 && v <= MOST_FOOD;
    }

    private static boolean isBit(int v) {
        return v == 0 || v == 1;
    }

    private static boolean isAhead(int n) {
        return n >= 0 && n <= DAYS_AHEAD;
    }

    private static boolean isRainy(int n) {
        return n >= 0 && n <= DAYS_RAIN;
    }

    private static boolean isTenths(int v) {
        return v >= 0 && v <= TENTHS;
    }

    private static boolean isImage(int k) {
        return k >= 0 && k < IMAGES;
    }

    private static boolean isSheet(int k) {
        return k >= 0 && k < SHEETS;
    }

    private static boolean isLane(int lane) {
        return lane >= 0 && lane <= 2;
    }

    private boolean isGardener(int g) {
        return g >= 0 && g < maze.gardeners;
    }

    private boolean isGuest(int i) {
        return i >= 0 && i < maze.guests;
    }

    // ---- helpers

    private static int sumOf(int[] row, int size) {
        int sum = 0;
        for (int i = 0; i < size && i < row.length; i++) {
            sum += row[i];
        }
        return sum;
    }

    private int outsAsItIs(int n) {
        trial.become(maze);
        return trial.outsBehind(n);
    }

    private int daysTillOut(int i) {
        for (int d = 0; d <= DAYS_AHEAD; d++) {
            if (trial.fate[i] == OUT) {
                return d;
            }
            trial.passDays(1);
        }
        return NONE;
    }

    private boolean isTasteAsSeen(int g, int taste) {
        trial.become(maze);
        trial.taste[g] = taste;
        return seen.fits(trial);
    }

    private long chance(int v, int who, int n, int what) {
        rainy[0].become(maze);
        long part = weightOfOuts(rainy, 0, n, v, who);
        long whole = 1;
        for (int d = 0; d < n; d++) {
            whole *= TENTHS;
        }
        long shared = commonDivisor(part, whole);
        if (shared <= 0) {
            return BAD;
        }
        return (what == 0 ? part : whole) / shared;
    }

    // How many of `who` are OUT, over all weathers of the days left, each weighed in tenths a day.
    private static long weightOfOuts(Maze[] days, int day, int n, int v, int who) {
        if (day >= n || day + 1 >= days.length) {
            return Integer.bitCount(days[day].whoIs(OUT) & who);
        }
        Maze next = days[day + 1];
        long sum = 0;
        if (v > 0) {
            next.become(days[day]);
            next.passDayOfGuests();
            sum += v * weightOfOuts(days, day + 1, n, v, who);
        }
        if (v < TENTHS) {
            next.become(days[day]);
            next.passDays(1);
            sum += (TENTHS - v) * weightOfOuts(days, day + 1, n, v, who);
        }
        return sum;
    }

    private static long commonDivisor(long a, long b) {
        long greater = a;
        long lesser = b;
        // Euclid needs fewer than 100 rounds for any two longs.
        for (int i = 0; i < 100 && lesser != 0; i++) {
            long rest = greater % lesser;
            greater = lesser;
            lesser = rest;
        }
        return greater;
    }

    /** Where one can go: sets of plots and of hedges are bits of an int. */
    private static final class Plots {
        private Plots() {
        }

        static int changed(int hedges, int h) {
            return hedges ^ (1 << h);
        }

        static int with(int hedges, int h, int v) {
            return v == 1 ? hedges | (1 << h) : hedges & ~(1 << h);
        }

        static int beside(int hedges, int plots) {
            // A row has four plots but three hedges, so each row's hedges lag one bit more.
            int hedged = (hedges & 0x7) | ((hedges & 0x38) << 1)
                    | ((hedges & 0x1C0) << 2) | ((hedges & 0xE00) << 3);
            int across = ~hedged & 0x7777;
            int down = ~(hedges >> 12) & 0xFFF;
            return ((plots & across) << 1) | ((plots >> 1) & across)
                    | ((plots & down) << 4) | ((plots >> 4) & down);
        }

        static int steps(int hedges, int a, int b) {
            int reached = 1 << a;
            for (int steps = 0; steps < PLOTS; steps++) {
                if ((reached & (1 << b)) != 0) {
                    return steps;
                }
                reached |= beside(hedges, reached);
            }
            return NONE;
        }

        static int toward(int hedges, int a, int gate) {
            int reached = 1 << gate;
            for (int steps = 0; steps < PLOTS && (reached & (1 << a)) == 0; steps++) {
                // What is beside him and reached ahead of him is nearer than he is, all by one step.
                int nearer = reached & beside(hedges, 1 << a);
                if (nearer != 0) {
                    return Integer.numberOfTrailingZeros(nearer);
                }
                int wider = reached | beside(hedges, reached);
                if (wider == reached) {
                    return a;
                }
                reached = wider;
            }
            return a;
        }
    }

    /** All that an image holds, and how a day changes it. */
    private static final class Maze {
        int hedges = 0;
        int gate = 0;
        int last = NONE;
        int day = 0;
        int gardeners = 0;
        final int[] kind = new int[GARDENERS];
        final int[] taste = new int[GARDENERS];
        final int[] pace = new int[GARDENERS];
        int guests = 0;
        final int[] at = new int[GUESTS];
        final int[] food = new int[GUESTS];
        final int[] fate = new int[GUESTS];

        void restart() {
            hedges = 0;
            gate = 0;
            last = NONE;
            day = 0;
            gardeners = 0;
            guests = 0;
        }

        void become(Maze other) {
            hedges = other.hedges;
            gate = other.gate;
            last = other.last;
            day = other.day;
            gardeners = other.gardeners;
            guests = other.guests;
            for (int g = 0; g < GARDENERS; g++) {
                kind[g] = other.kind[g];
                taste[g] = other.taste[g];
                pace[g] = other.pace[g];
            }
            for (int i = 0; i < GUESTS; i++) {
                at[i] = other.at[i];
                food[i] = other.food[i];
                fate[i] = other.fate[i];
            }
        }

        static boolean isTrait(int what, int v) {
            int bound = what == 0 ? KINDS : what == 1 ? HEDGES : PACES;
            return v >= 0 && v < bound;
        }

        int[] trait(int what) {
            return what == 0 ? kind : what == 1 ? taste : pace;
        }

        int[] lot(int what) {
            return what == 0 ? at : what == 1 ? food : fate;
        }

        boolean addGardener(int ofKind, int withTaste, int withPace) {
            if (gardeners >= GARDENERS) {
                return false;
            }
            kind[gardeners] = ofKind;
            taste[gardeners] = withTaste;
            pace[gardeners] = withPace;
            gardeners++;
            return true;
        }

        boolean addGuest(int c, int withFood) {
            if (guests >= GUESTS) {
                return false;
            }
            at[guests] = c;
            food[guests] = withFood;
            fate[guests] = IN;
            guests++;
            return true;
        }

        int standing(int h) {
            return (hedges >> h) & 1;
        }

        int whoIs(int what) {
            int bits = 0;
            for (int i = 0; i < guests; i++) {
                if (fate[i] == what) {
                    bits |= 1 << i;
                }
            }
            return bits;
        }

        int outs() {
            return Integer.bitCount(whoIs(OUT));
        }

        int goal(int g) {
            switch (kind[g]) {
                case SPITE: return last == NONE ? taste[g] : last;
                case WIDE: return HEDGES - 1 - taste[g];
                default: return taste[g];
            }
        }

        int made(int g, int h) {
            switch (kind[g]) {
                case CLOSE: return 1;
                case WIDE: return 0;
                default: return 1 - standing(h);
            }
        }

        int todays() {
            return gardeners > 0 ? day % gardeners : NONE;
        }

        void mow() {
            int g = todays();
            if (g < 0) {
                return;
            }
            int h = goal(g);
            hedges = Plots.with(hedges, h, made(g, h));
            last = h;
            taste[g] = (taste[g] + pace[g]) % HEDGES;
        }

        void walk() {
            for (int i = 0; i < guests; i++) {
                if (fate[i] != IN) {
                    continue;
                }
                if (food[i] == 0) {
                    fate[i] = LOST;
                    continue;
                }
                at[i] = Plots.toward(hedges, at[i], gate);
                food[i]--;
                if (at[i] == gate) {
                    fate[i] = OUT;
                }
            }
        }

        void passDays(int n) {
            for (int d = 0; d < n; d++) {
                mow();
                walk();
                day++;
            }
        }

        void passDayOfGuests() {
            walk();
            day++;
        }

        // Guests change no hedge: where hedges alone are asked, their walks are left out.
        void passDayOfGardeners() {
            mow();
            day++;
        }

        int outsBehind(int n) {
            return outsWithout(NONE, n);
        }

        int outsWithout(int g, int n) {
            // When nobody is IN any more, no day changes who is OUT.
            for (int d = 0; d < n && whoIs(IN) != 0; d++) {
                if (gardeners > 0 && todays() != g) {
                    mow();
                }
                passDayOfGuests();
            }
            return outs();
        }

        void exchange(int a, int b) {
            for (int what = 0; what < 3; what++) {
                int[] row = trait(what);
                int held = row[a];
                row[a] = row[b];
                row[b] = held;
            }
        }

        boolean isMownLike(Maze other) {
            if (hedges != other.hedges || last != other.last || todays() != other.todays()) {
                return false;
            }
            for (int g = 0; g < gardeners; g++) {
                if (taste[g] != other.taste[g]) {
                    return false;
                }
            }
            return true;
        }
    }

    /** The first of those by which most guests are OUT, more than a bar. */
    private static final class Best {
        int which = NONE;
        int outs = 0;

        void above(int bar) {
            which = NONE;
            outs = bar;
        }

        void offer(int candidate, int itsOuts) {
            if (itsOuts > outs) {
                which = candidate;
                outs = itsOuts;
            }
        }

        int told(int what) {
            return which == NONE || what == 0 ? which : outs;
        }
    }

    /** What is SEEN, and the hedges of the days that a trial shows. */
    private static final class Seen {
        int size = 0;
        final int[] behind = new int[SEEN];
        final int[] where = new int[SEEN];
        final int[] stood = new int[SEEN];
        final int[] views = new int[DAYS_SEEN + 1];
        final int[] votes = new int[(DAYS_SEEN + 1) * HEDGES];

        boolean note(int n, int h, int v) {
            if (size >= SEEN) {
                return false;
            }
            behind[size] = n;
            where[size] = h;
            stood[size] = v;
            size++;
            return true;
        }

        boolean fits(Maze trial) {
            for (int d = 0; d <= DAYS_SEEN; d++) {
                views[d] = trial.hedges;
                trial.passDayOfGardeners();
            }
            for (int s = 0; s < size; s++) {
                if (((views[behind[s]] >> where[s]) & 1) != stood[s]) {
                    return false;
                }
            }
            return true;
        }

        void clearVotes() {
            Arrays.fill(votes, 0);
        }

        void vote() {
            for (int d = 0; d <= DAYS_SEEN; d++) {
                for (int h = 0; h < HEDGES; h++) {
                    votes[d * HEDGES + h] += (views[d] >> h) & 1;
                }
            }
        }
    }

    /** A row of one lane's cells; the faults are told, never met. */
    private static final class Sheet {
        boolean made = false;
        int lane = 0;
        int size = 0;
        final int[] cells = new int[CELLS];

        void renew(int ofLane, int n) {
            made = true;
            lane = ofLane;
            size = n;
            Arrays.fill(cells, 0);
        }

        int faultAt(int asLane, int i) {
            if (!made) {
                return FAULT_NULL;
            }
            if (asLane != lane) {
                return FAULT_CAST;
            }
            return i < 0 || i >= size ? FAULT_INDEX : 0;
        }

        int faultOfPair(int asLane, int i) {
            int first = faultAt(asLane, i);
            return first != 0 ? first : faultAt(asLane, i + 1);
        }

        void put(int i, int v) {
            cells[i] = lane == 0 ? (byte) v : lane == 1 ? (short) v : v;
        }
    }

    /** The tape, and how a text on it is read. */
    private static final class Reader {
        private static final int WRONG = 0, NAME = 1, NUMBER = 2, SIGN = 3, END = 4;
        private static final int NO_TOKEN = 1, NOT_THERE = 2, OUT_OF_BOUNDS = 3;
        private static final int TWICE = 4, TOO_MANY = 5;

        final byte[] tape = new byte[TAPE];
        int length = 0;
        int place = 0;
        int start = 0;
        int token = END;
        int number = 0;
        int fault = 0;
        boolean gateTold = false;

        boolean append(int c) {
            if (length >= TAPE) {
                return false;
            }
            tape[length] = (byte) c;
            length++;
            return true;
        }

        /** How many lines there are; behind a fault, `fault` and `start` tell which and where. */
        int readLines(Maze told) {
            place = 0;
            fault = 0;
            gateTold = false;
            for (int lines = 0; lines <= TAPE; lines++) {
                takeToken();
                if (token == END || !readLine(told)) {
                    return lines;
                }
            }
            return TAPE;
        }

        private boolean readLine(Maze told) {
            if (token != NAME) {
                return failAtToken();
            }
            int kind = kindNamed();
            if (kind >= 0) {
                return readGardener(told, kind);
            }
            if (spells("guest")) {
                return readGuest(told);
            }
            if (spells("hedge")) {
                return readHedges(told);
            }
            return spells("gate") ? readGate(told) : fail(NOT_THERE);
        }

        private boolean readGardener(Maze told, int kind) {
            if (told.gardeners >= GARDENERS) {
                return fail(TOO_MANY);
            }
            if (!takeNumber(HEDGES - 1)) {
                return false;
            }
            int taste = number;
            return takeNumber(PACES - 1) && told.addGardener(kind, taste, number) && takeSign();
        }

        private boolean readGuest(Maze told) {
            if (told.guests >= GUESTS) {
                return fail(TOO_MANY);
            }
            if (!takeNumber(PLOTS - 1)) {
                return false;
            }
            int at = number;
            return takeNumber(MOST_FOOD) && told.addGuest(at, number) && takeSign();
        }

        private boolean readHedges(Maze told) {
            for (int i = 0; i <= TAPE; i++) {
                takeToken();
                if (token == SIGN) {
                    return true;
                }
                if (!isNumberTo(HEDGES - 1)) {
                    return false;
                }
                if (told.standing(number) == 1) {
                    return fail(TWICE);
                }
                told.hedges = Plots.with(told.hedges, number, 1);
            }
            return fail(NOT_THERE);
        }

        private boolean readGate(Maze told) {
            if (gateTold) {
                return fail(TWICE);
            }
            if (!takeNumber(PLOTS - 1)) {
                return false;
            }
            gateTold = true;
            told.gate = number;
            return takeSign();
        }

        private boolean takeNumber(int most) {
            takeToken();
            return isNumberTo(most);
        }

        private boolean isNumberTo(int most) {
            if (token != NUMBER) {
                return failAtToken();
            }
            return number <= most || fail(OUT_OF_BOUNDS);
        }

        private boolean takeSign() {
            takeToken();
            return token == SIGN || failAtToken();
        }

        private boolean failAtToken() {
            return fail(token == WRONG ? NO_TOKEN : NOT_THERE);
        }

        private boolean fail(int which) {
            fault = which;
            return false;
        }

        private void takeToken() {
            while (place < length && tape[place] == ' ') {
                place++;
            }
            start = place;
            if (place >= length) {
                token = END;
            } else if (isLetter(tape[place])) {
                takeName();
            } else if (isFigure(tape[place])) {
                takeFigures();
            } else {
                token = tape[place] == ';' ? SIGN : WRONG;
                place++;
            }
        }

        private void takeName() {
            token = NAME;
            while (place < length && isLetter(tape[place])) {
                place++;
            }
        }

        private void takeFigures() {
            number = 0;
            while (place < length && isFigure(tape[place])) {
                number = number * 10 + tape[place] - '0';
                place++;
            }
            token = place - start > 2 ? WRONG : NUMBER;
        }

        private int kindNamed() {
            if (spells("plain")) {
                return PLAIN;
            }
            if (spells("spite")) {
                return SPITE;
            }
            if (spells("close")) {
                return CLOSE;
            }
            return spells("wide") ? WIDE : NONE;
        }

        private boolean spells(String word) {
            if (place - start != word.length()) {
                return false;
            }
            for (int i = 0; i < word.length(); i++) {
                if (tape[start + i] != word.charAt(i)) {
                    return false;
                }
            }
            return true;
        }

        private static boolean isLetter(int c) {
            return c >= 'a' && c <= 'z';
        }

        private static boolean isFigure(int c) {
            return c >= '0' && c <= '9';
        }
    }
}
