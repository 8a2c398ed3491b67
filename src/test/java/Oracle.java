import java.math.BigInteger;
import java.util.ArrayDeque;
import java.util.ArrayList;
import java.util.Arrays;
import java.util.List;
import java.util.TreeSet;
import java.util.function.IntPredicate;

/** The document read a second time, as plainly as can be and with the library, to compare with. */
final class Oracle {
    static final int BAD = -1, STATE = -2, FULL = -3, NONE = -4;

    static final class Gardener {
        int kind, taste, pace;

        Gardener(int kind, int taste, int pace) {
            this.kind = kind;
            this.taste = taste;
            this.pace = pace;
        }
    }

    static final class Guest {
        int at, food, fate;

        Guest(int at, int food, int fate) {
            this.at = at;
            this.food = food;
            this.fate = fate;
        }
    }

    static final class World {
        final TreeSet<Integer> hedges = new TreeSet<>();
        final List<Gardener> gardeners = new ArrayList<>();
        final List<Guest> guests = new ArrayList<>();
        int gate = 0, day = 0;
        Integer last = null;

        World copy() {
            World w = new World();
            w.hedges.addAll(hedges);
            for (Gardener g : gardeners) {
                w.gardeners.add(new Gardener(g.kind, g.taste, g.pace));
            }
            for (Guest i : guests) {
                w.guests.add(new Guest(i.at, i.food, i.fate));
            }
            w.gate = gate;
            w.day = day;
            w.last = last;
            return w;
        }

        void change(int h) {
            if (!hedges.remove(h)) {
                hedges.add(h);
            }
        }

        boolean joined(int a, int b) {
            int low = Math.min(a, b), high = Math.max(a, b);
            if (high - low == 1 && low / 4 == high / 4) {
                return !hedges.contains(low / 4 * 3 + low % 4);
            }
            return high - low == 4 && !hedges.contains(12 + low);
        }

        int way(int a, int b) {
            int[] steps = new int[16];
            Arrays.fill(steps, NONE);
            ArrayDeque<Integer> queue = new ArrayDeque<>();
            steps[a] = 0;
            queue.add(a);
            while (!queue.isEmpty()) {
                int c = queue.remove();
                for (int d = 0; d < 16; d++) {
                    if (steps[d] == NONE && joined(c, d)) {
                        steps[d] = steps[c] + 1;
                        queue.add(d);
                    }
                }
            }
            return steps[b];
        }

        int turn(int a) {
            int from = way(a, gate);
            for (int c = 0; c < 16 && from != NONE; c++) {
                if (joined(a, c) && way(c, gate) < from) {
                    return c;
                }
            }
            return a;
        }

        int goal(Gardener g) {
            if (g.kind == 1 && last != null) {
                return last;
            }
            return g.kind == 3 ? 23 - g.taste : g.taste;
        }

        void day(IntPredicate comes) {
            if (!gardeners.isEmpty()) {
                int number = day % gardeners.size();
                if (comes.test(number)) {
                    work(gardeners.get(number));
                }
            }
            for (Guest i : guests) {
                if (i.fate == 0) {
                    walk(i);
                }
            }
            day++;
        }

        void work(Gardener g) {
            int h = goal(g);
            if (g.kind <= 1) {
                change(h);
            } else if (g.kind == 2) {
                hedges.add(h);
            } else {
                hedges.remove(h);
            }
            last = h;
            g.taste = (g.taste + g.pace) % 24;
        }

        void walk(Guest i) {
            if (i.food == 0) {
                i.fate = 2;
                return;
            }
            i.at = turn(i.at);
            i.food--;
            if (i.at == gate) {
                i.fate = 1;
            }
        }

        World behind(int n) {
            World w = copy();
            for (int d = 0; d < n; d++) {
                w.day(g -> true);
            }
            return w;
        }

        int outs() {
            return (int) guests.stream().filter(i -> i.fate == 1).count();
        }

        int bits(int fate) {
            int bits = 0;
            for (int i = 0; i < guests.size(); i++) {
                if (guests.get(i).fate == fate) {
                    bits += 1 << i;
                }
            }
            return bits;
        }

        int lastOrNone() {
            return last == null ? NONE : last;
        }
    }

    private World world = new World();
    private final StringBuilder tape = new StringBuilder();
    private int fault = 0, torn = 0;
    private final List<int[]> seen = new ArrayList<>();
    private final World[] images = new World[2];
    private final Object[] sheets = new Object[4];

    private static boolean within(int v, int least, int most) {
        return least <= v && v <= most;
    }

    private boolean noGardener(int g) {
        return !within(g, 0, world.gardeners.size() - 1);
    }

    private boolean noGuest(int i) {
        return !within(i, 0, world.guests.size() - 1);
    }

    int feed(int c) {
        if (!within(c, 0, 127)) {
            return BAD;
        }
        if (tape.length() == 160) {
            return FULL;
        }
        tape.append((char) c);
        return tape.length();
    }

    int end(int n) {
        if (!within(n, 0, tape.length())) {
            return BAD;
        }
        int had = tape.length();
        tape.setLength(n);
        return had;
    }

    /** What stops the reading, thrown where it is met. */
    private static final class Stop extends Exception {
        private static final long serialVersionUID = 1;
        final int fault, place;

        Stop(int fault, int place) {
            this.fault = fault;
            this.place = place;
        }
    }

    private static final class Tokens {
        final String text;
        int next = 0, start = 0;
        String token = "";

        Tokens(String text) {
            this.text = text;
        }

        /** The next token, "" at the end. */
        String take() throws Stop {
            while (next < text.length() && text.charAt(next) == ' ') {
                next++;
            }
            start = next;
            String rest = text.substring(next);
            String name = rest.replaceFirst("(?s)^([a-z]*).*$", "$1");
            String number = rest.replaceFirst("(?s)^([0-9]*).*$", "$1");
            if (rest.isEmpty()) {
                token = "";
            } else if (!name.isEmpty()) {
                token = name;
            } else if (!number.isEmpty()) {
                token = number;
                if (number.length() > 2) {
                    throw new Stop(1, start);
                }
            } else if (rest.charAt(0) == ';') {
                token = ";";
            } else {
                throw new Stop(1, start);
            }
            next += token.length();
            return token;
        }

        int asNumber(int most) throws Stop {
            if (!token.matches("[0-9]+")) {
                throw new Stop(2, start);
            }
            int v = Integer.parseInt(token);
            if (v > most) {
                throw new Stop(3, start);
            }
            return v;
        }

        int takeNumber(int most) throws Stop {
            take();
            return asNumber(most);
        }

        void takeSign() throws Stop {
            if (!take().equals(";")) {
                throw new Stop(2, start);
            }
        }
    }

    int text() {
        Tokens tokens = new Tokens(tape.toString());
        tape.setLength(0);
        try {
            World told = new World();
            int lines = read(tokens, told);
            world = told;
            seen.clear();
            Arrays.fill(images, null);
            fault = 0;
            return lines;
        } catch (Stop stop) {
            fault = stop.fault;
            return -10 - stop.place;
        }
    }

    private static int read(Tokens tokens, World told) throws Stop {
        List<String> kinds = List.of("plain", "spite", "close", "wide");
        boolean gate = false;
        for (int lines = 0; ; lines++) {
            String name = tokens.take();
            if (name.isEmpty()) {
                return lines;
            }
            if (kinds.contains(name)) {
                if (told.gardeners.size() == 4) {
                    throw new Stop(5, tokens.start);
                }
                told.gardeners.add(new Gardener(kinds.indexOf(name), tokens.takeNumber(23), tokens.takeNumber(9)));
                tokens.takeSign();
            } else if (name.equals("guest")) {
                if (told.guests.size() == 4) {
                    throw new Stop(5, tokens.start);
                }
                told.guests.add(new Guest(tokens.takeNumber(15), tokens.takeNumber(60), 0));
                tokens.takeSign();
            } else if (name.equals("hedge")) {
                while (!tokens.take().equals(";")) {
                    if (!told.hedges.add(tokens.asNumber(23))) {
                        throw new Stop(4, tokens.start);
                    }
                }
            } else if (name.equals("gate")) {
                if (gate) {
                    throw new Stop(4, tokens.start);
                }
                gate = true;
                told.gate = tokens.takeNumber(15);
                tokens.takeSign();
            } else {
                throw new Stop(2, tokens.start);
            }
        }
    }

    int fault() {
        return fault;
    }

    int rule(int what) {
        if (!within(what, 0, 7)) {
            return BAD;
        }
        return new int[] {world.gardeners.size(), world.guests.size(), world.day, world.gate, world.hedges.size(),
            world.bits(1), world.bits(2), world.lastOrNone()}[what];
    }

    int hedge(int h) {
        return !within(h, 0, 23) ? BAD : world.hedges.contains(h) ? 1 : 0;
    }

    int gardener(int g, int what) {
        if (noGardener(g) || !within(what, 0, 3)) {
            return BAD;
        }
        Gardener one = world.gardeners.get(g);
        return new int[] {one.kind, one.taste, one.pace, world.goal(one)}[what];
    }

    private static int lot(World w, int i, int what) {
        Guest one = w.guests.get(i);
        return new int[] {one.at, one.food, one.fate}[what];
    }

    int guest(int i, int what) {
        return noGuest(i) || !within(what, 0, 2) ? BAD : lot(world, i, what);
    }

    int way(int a, int b) {
        return !within(a, 0, 15) || !within(b, 0, 15) ? BAD : world.way(a, b);
    }

    int turn(int a) {
        return !within(a, 0, 15) ? BAD : world.turn(a);
    }

    int grow(int h, int v) {
        if (!within(h, 0, 23) || !within(v, 0, 1)) {
            return BAD;
        }
        boolean did = v == 1 ? !world.hedges.add(h) : world.hedges.remove(h);
        return did ? 1 : 0;
    }

    int alter(int g, int what, int v) {
        if (noGardener(g) || !within(what, 0, 2) || !within(v, 0, new int[] {3, 23, 9}[what])) {
            return BAD;
        }
        Gardener one = world.gardeners.get(g);
        int was = gardener(g, what);
        if (what == 0) {
            one.kind = v;
        } else if (what == 1) {
            one.taste = v;
        } else {
            one.pace = v;
        }
        return was;
    }

    int hire(int kind, int taste, int pace) {
        if (!within(kind, 0, 3) || !within(taste, 0, 23) || !within(pace, 0, 9)) {
            return BAD;
        }
        if (world.gardeners.size() == 4) {
            return FULL;
        }
        world.gardeners.add(new Gardener(kind, taste, pace));
        return world.gardeners.size();
    }

    int leave(int n) {
        int were = world.gardeners.size();
        if (!within(n, 0, were)) {
            return BAD;
        }
        world.gardeners.subList(n, were).clear();
        return were;
    }

    int come(int c, int food) {
        if (!within(c, 0, 15) || !within(food, 0, 60)) {
            return BAD;
        }
        if (world.guests.size() == 4) {
            return FULL;
        }
        world.guests.add(new Guest(c, food, 0));
        return world.guests.size();
    }

    int move(int i, int c) {
        if (noGuest(i) || !within(c, 0, 15)) {
            return BAD;
        }
        Guest one = world.guests.get(i);
        world.guests.set(i, new Guest(c, one.food, 0));
        return one.at;
    }

    int bread(int i, int v) {
        if (noGuest(i) || !within(v, 0, 60)) {
            return BAD;
        }
        Guest one = world.guests.get(i);
        world.guests.set(i, new Guest(one.at, v, one.fate));
        return one.food;
    }

    int open(int c) {
        if (!within(c, 0, 15)) {
            return BAD;
        }
        int was = world.gate;
        world.gate = c;
        return was;
    }

    int days(int n) {
        if (!within(n, 0, 30)) {
            return BAD;
        }
        if (world.day + n >= 1000) {
            return FULL;
        }
        int were = world.outs();
        world = world.behind(n);
        return world.outs() - were;
    }

    int runs(int n, int what) {
        if (!within(n, 0, 60) || !within(what, 0, 3)) {
            return BAD;
        }
        World w = world.behind(n);
        return new int[] {w.outs(), w.bits(2), w.hedges.size(), w.lastOrNone()}[what];
    }

    int ahead(int i, int n, int what) {
        return noGuest(i) || !within(n, 0, 60) || !within(what, 0, 2) ? BAD : lot(world.behind(n), i, what);
    }

    int stands(int h, int n) {
        return !within(h, 0, 23) || !within(n, 0, 60) ? BAD : world.behind(n).hedges.contains(h) ? 1 : 0;
    }

    int out(int i) {
        if (noGuest(i)) {
            return BAD;
        }
        for (int n = 0; n <= 60; n++) {
            if (lot(world.behind(n), i, 2) == 1) {
                return n;
            }
        }
        return NONE;
    }

    private static List<Object> round(World w) {
        List<Object> all = new ArrayList<>();
        all.add(new ArrayList<>(w.hedges));
        all.add(w.lastOrNone());
        for (Gardener g : w.gardeners) {
            all.add(g.taste);
        }
        all.add(w.gardeners.isEmpty() ? 0 : w.day % w.gardeners.size());
        return all;
    }

    int again() {
        for (int n = 1; n <= 60; n++) {
            if (round(world.behind(n)).equals(round(world))) {
                return n;
            }
        }
        return NONE;
    }

    /** The first of the greatest that are above the bar. */
    private static int best(List<int[]> rows, int bar, int what) {
        int[] best = {NONE, bar};
        for (int[] row : rows) {
            if (row[1] > best[1]) {
                best = row;
            }
        }
        return best[0] == NONE ? NONE : best[what];
    }

    int cut(int n, int what) {
        if (!within(n, 0, 60) || !within(what, 0, 1)) {
            return BAD;
        }
        List<int[]> rows = new ArrayList<>();
        for (int h = 0; h < 24; h++) {
            World w = world.copy();
            w.change(h);
            rows.add(new int[] {h, w.behind(n).outs()});
        }
        return best(rows, world.behind(n).outs(), what);
    }

    int door(int n, int what) {
        if (!within(n, 0, 60) || !within(what, 0, 1)) {
            return BAD;
        }
        List<int[]> rows = new ArrayList<>();
        for (int c = 0; c < 16; c++) {
            World w = world.copy();
            w.gate = c;
            rows.add(new int[] {c, w.behind(n).outs()});
        }
        return best(rows, -1, what);
    }

    int food(int i) {
        if (noGuest(i)) {
            return BAD;
        }
        if (world.guests.get(i).fate != 0) {
            return STATE;
        }
        for (int food = 0; food <= 60; food++) {
            World w = world.copy();
            w.guests.get(i).food = food;
            if (lot(w.behind(60), i, 2) == 1) {
                return food;
            }
        }
        return NONE;
    }

    int sack(int n, int what) {
        if (!within(n, 0, 60) || !within(what, 0, 1)) {
            return BAD;
        }
        List<int[]> rows = new ArrayList<>();
        for (int g = 0; g < world.gardeners.size(); g++) {
            World w = world.copy();
            int home = g;
            for (int d = 0; d < n; d++) {
                w.day(number -> number != home);
            }
            rows.add(new int[] {g, w.outs()});
        }
        return best(rows, world.behind(n).outs(), what);
    }

    int swap(int n, int what) {
        if (!within(n, 0, 60) || !within(what, 0, 1)) {
            return BAD;
        }
        List<int[]> rows = new ArrayList<>();
        for (int pair = 0; pair < 100; pair++) {
            int a = pair / 10, b = pair % 10;
            if (a < b && b < world.gardeners.size()) {
                World w = world.copy();
                w.gardeners.set(a, w.gardeners.set(b, w.gardeners.get(a)));
                rows.add(new int[] {pair, w.behind(n).outs()});
            }
        }
        return best(rows, world.behind(n).outs(), what);
    }

    int kind(int g, int n, int what) {
        if (noGardener(g) || !within(n, 0, 60) || !within(what, 0, 1)) {
            return BAD;
        }
        List<int[]> rows = new ArrayList<>();
        for (int kind = 0; kind < 4; kind++) {
            World w = world.copy();
            w.gardeners.get(g).kind = kind;
            rows.add(new int[] {kind, w.behind(n).outs()});
        }
        return best(rows, -1, what);
    }

    /** Weather by weather: a bit of `rain` for each day. */
    private long chance(int v, int n, int what, IntPredicate counts) {
        BigInteger part = BigInteger.ZERO;
        for (int rain = 0; rain < 1 << n; rain++) {
            World w = world.copy();
            BigInteger weight = BigInteger.ONE;
            for (int d = 0; d < n; d++) {
                boolean wet = (rain >> d & 1) == 1;
                weight = weight.multiply(BigInteger.valueOf(wet ? v : 10 - v));
                w.day(g -> !wet);
            }
            for (int i = 0; i < w.guests.size(); i++) {
                if (counts.test(i) && w.guests.get(i).fate == 1) {
                    part = part.add(weight);
                }
            }
        }
        BigInteger whole = BigInteger.TEN.pow(n);
        BigInteger shared = part.gcd(whole);
        return (what == 0 ? part : whole).divide(shared).longValueExact();
    }

    long luck(int v, int i, int n, int what) {
        if (!within(v, 0, 10) || noGuest(i) || !within(n, 0, 8) || !within(what, 0, 1)) {
            return BAD;
        }
        return chance(v, n, what, one -> one == i);
    }

    long mean(int v, int n, int what) {
        if (!within(v, 0, 10) || !within(n, 0, 8) || !within(what, 0, 1)) {
            return BAD;
        }
        return chance(v, n, what, one -> true);
    }

    int see(int n, int h, int v) {
        if (!within(n, 0, 20) || !within(h, 0, 23) || !within(v, 0, 1)) {
            return BAD;
        }
        if (seen.size() == 6) {
            return FULL;
        }
        seen.add(new int[] {n, h, v});
        return seen.size();
    }

    int forget(int n) {
        int were = seen.size();
        if (!within(n, 0, were)) {
            return BAD;
        }
        seen.subList(n, were).clear();
        return were;
    }

    private static boolean is(World w, int n, int h, int v) {
        return w.behind(n).hedges.contains(h) == (v == 1);
    }

    private boolean asSeen(World w) {
        return seen.stream().allMatch(s -> is(w, s[0], s[1], s[2]));
    }

    int kinds(int g) {
        if (noGardener(g)) {
            return BAD;
        }
        int bits = 0;
        for (int kind = 0; kind < 4; kind++) {
            World w = world.copy();
            w.gardeners.get(g).kind = kind;
            bits += asSeen(w) ? 1 << kind : 0;
        }
        return bits;
    }

    private World withTaste(int g, int taste) {
        World w = world.copy();
        w.guests.clear();
        w.gardeners.get(g).taste = taste;
        return w;
    }

    int tastes(int g) {
        if (noGardener(g)) {
            return BAD;
        }
        int bits = 0;
        for (int taste = 0; taste < 24; taste++) {
            bits += asSeen(withTaste(g, taste)) ? 1 << taste : 0;
        }
        return bits;
    }

    int ask(int g, int what) {
        if (noGardener(g) || !within(what, 0, 1)) {
            return BAD;
        }
        int now = tastes(g);
        List<int[]> rows = new ArrayList<>();
        for (int n = 0; n <= 20; n++) {
            List<World> worlds = new ArrayList<>();
            for (int taste = 0; taste < 24; taste++) {
                if ((now >> taste & 1) == 1) {
                    worlds.add(withTaste(g, taste).behind(n));
                }
            }
            for (int h = 0; h < 24; h++) {
                int hedge = h;
                int standing = (int) worlds.stream().filter(w -> w.hedges.contains(hedge)).count();
                rows.add(new int[] {100 * n + h, 24 - Math.max(standing, worlds.size() - standing)});
            }
        }
        int best = best(rows, 24 - Integer.bitCount(now), what);
        return what == 1 && best != NONE ? 24 - best : best;
    }

    int drift(int seed, int n, int what) {
        if (!within(n, 1, 60) || !within(what, 0, 1)) {
            return BAD;
        }
        if (world.guests.isEmpty()) {
            return STATE;
        }
        World w = world.copy();
        BigInteger now = BigInteger.valueOf(seed);
        for (int d = 0; d < n; d++) {
            now = now.multiply(BigInteger.valueOf(1103515245)).add(BigInteger.valueOf(12345));
            int got = 0;
            for (int bit = 16; bit <= 30; bit++) {
                got += now.testBit(bit) ? 1 << (bit - 16) : 0;
            }
            w.change(got % 24);
            w = w.behind(1);
        }
        return what == 0 ? w.outs() : w.hedges.size();
    }

    int keep(int k) {
        if (!within(k, 0, 1)) {
            return BAD;
        }
        int was = images[k] == null ? 0 : 1;
        images[k] = world.copy();
        return was;
    }

    int back(int k) {
        if (!within(k, 0, 1)) {
            return BAD;
        }
        if (images[k] == null) {
            return STATE;
        }
        world = images[k].copy();
        return world.day;
    }

    private static Object row(int lane, int n) {
        return lane == 0 ? (Object) new byte[n] : lane == 1 ? (Object) new short[n] : new int[n];
    }

    private static int get(Object row, int lane, int i) {
        return lane == 0 ? ((byte[]) row)[i] : lane == 1 ? ((short[]) row)[i] : ((int[]) row)[i];
    }

    /** The very faults of the machine: this is a test, and may let it find them. */
    private static int faultOf(RuntimeException found) {
        if (found instanceof NullPointerException) {
            return 1;
        }
        if (found instanceof ArrayIndexOutOfBoundsException) {
            return 2;
        }
        return found instanceof ClassCastException ? 3 : 4;
    }

    int sheet(int k, int lane, int n) {
        if (!within(k, 0, 3) || !within(lane, 0, 2) || n > 40) {
            return BAD;
        }
        try {
            sheets[k] = row(lane, n);
            return 1;
        } catch (NegativeArraySizeException found) {
            return -10 - faultOf(found);
        }
    }

    int lay(int k, int i, int v) {
        if (!within(k, 0, 3)) {
            return BAD;
        }
        try {
            if (sheets[k] instanceof byte[]) {
                ((byte[]) sheets[k])[i] = (byte) v;
            } else if (sheets[k] instanceof short[]) {
                ((short[]) sheets[k])[i] = (short) v;
            } else {
                ((int[]) sheets[k])[i] = v;
            }
            return 1;
        } catch (RuntimeException found) {
            return -10 - faultOf(found);
        }
    }

    int read(int k, int lane, int f, int n) {
        if (!within(k, 0, 3) || !within(lane, 0, 2) || !within(n, 0, 20)) {
            return BAD;
        }
        World before = world.copy();
        int found = 0;
        int came = 0;
        try {
            for (; came < n; came++) {
                int h = get(sheets[k], lane, f + 2 * came);
                int v = get(sheets[k], lane, f + 2 * came + 1);
                if (grow(h, v) == BAD) {
                    world = before;
                    return -20 - came;
                }
            }
        } catch (RuntimeException fault) {
            found = faultOf(fault);
        }
        torn = found;
        return came;
    }

    int torn() {
        return torn;
    }

    int count(int what) {
        if (!within(what, 0, 5)) {
            return BAD;
        }
        int images = (this.images[0] == null ? 0 : 1) + (this.images[1] == null ? 0 : 1);
        int cells = sheets[0] == null ? NONE : java.lang.reflect.Array.getLength(sheets[0]);
        int food = world.guests.stream().mapToInt(i -> i.food).sum();
        int paces = world.gardeners.stream().mapToInt(g -> g.pace).sum();
        return new int[] {seen.size(), images, tape.length(), cells, food, paces}[what];
    }
}
