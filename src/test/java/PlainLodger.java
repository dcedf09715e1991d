import java.util.ArrayList;
import java.util.Arrays;
import java.util.HashMap;
import java.util.HashSet;
import java.util.List;
import java.util.Map;
import java.util.Set;
import java.util.TreeSet;

/**
 * The document once more, written as slowly and plainly as can be, to be held against MoonLodger: trees in place
 * of code, copies in place of rings, all subsets in place of tables.
 */
public final class PlainLodger {
    static final int NONE = -1;

    static final class Beast {
        int at;
        int mood;
        int kicked;

        Beast(int at, int mood, int kicked) {
            this.at = at;
            this.mood = mood;
            this.kicked = kicked;
        }

        Beast copy() {
            return new Beast(at, mood, kicked);
        }
    }

    static final class World {
        int moon = NONE;
        int silver = 0;
        int hour = 0;
        int x = 197;
        List<Beast> beasts = new ArrayList<>();
        List<int[]> book = new ArrayList<>();

        World copy() {
            World w = new World();
            w.moon = moon;
            w.silver = silver;
            w.hour = hour;
            w.x = x;
            for (Beast b : beasts) {
                w.beasts.add(b.copy());
            }
            w.book.addAll(book);
            return w;
        }

        int draw() {
            int old = x;
            x = (int) ((x * 439L + 317L) % 30559L);
            return old;
        }
    }

    static final class All {
        int[] kind = new int[30];
        int[] height = new int[30];
        World world = new World();
        List<World> past = new ArrayList<>();
        List<int[]> work = new ArrayList<>();
        List<int[]> dark = new ArrayList<>();
        List<int[]> seen = new ArrayList<>();
        List<int[]> read = new ArrayList<>();
        int[] gains = new int[12];
        List<PlainText> texts = new ArrayList<>();
        int ruling = NONE;

        All() {
            Arrays.fill(height, 5);
        }

        All copy() {
            All a = new All();
            a.kind = kind.clone();
            a.height = height.clone();
            a.world = world.copy();
            for (World w : past) {
                a.past.add(w.copy());
            }
            a.work.addAll(work);
            a.dark.addAll(dark);
            a.seen.addAll(seen);
            a.read.addAll(read);
            a.gains = gains.clone();
            a.texts.addAll(texts);
            a.ruling = ruling;
            return a;
        }
    }

    private All all = new All();
    private All image = new All();
    private String tape = "";
    private boolean anyRead = false;
    private int faultKind = 0;
    private int faultPlace = NONE;

    // ---- helpers

    private static boolean in(int v, int low, int high) {
        return v >= low && v <= high;
    }

    private boolean noWall(int c) {
        return in(c, 0, 29) && all.kind[c] != 1;
    }

    private static List<Integer> sides(int c) {
        List<Integer> s = new ArrayList<>();
        if (c / 6 > 0) {
            s.add(c - 6);
        }
        if (c % 6 > 0) {
            s.add(c - 1);
        }
        if (c % 6 < 5) {
            s.add(c + 1);
        }
        if (c / 6 < 4) {
            s.add(c + 6);
        }
        return s;
    }

    private Map<Integer, Integer> stepsFrom(int a) {
        Map<Integer, Integer> found = new HashMap<>();
        if (!noWall(a)) {
            return found;
        }
        List<Integer> queue = new ArrayList<>();
        queue.add(a);
        found.put(a, 0);
        for (int i = 0; i < queue.size(); i++) {
            int c = queue.get(i);
            for (int s : sides(c)) {
                if (noWall(s) && !found.containsKey(s)) {
                    found.put(s, found.get(c) + 1);
                    queue.add(s);
                }
            }
        }
        return found;
    }

    private static int phase(int hour) {
        return hour / 24 % 30;
    }

    private static int size(int hour) {
        int p = phase(hour);
        return p >= 15 ? 30 - p : p;
    }

    private PlainText ruling() {
        return all.ruling == NONE ? null : all.texts.get(all.ruling);
    }

    private int[] lights(PlainText text, int moon, int hour, int size) {
        int[] light = new int[30];
        if (moon == NONE) {
            return light;
        }
        for (Map.Entry<Integer, Integer> e : stepsFrom(moon).entrySet()) {
            int c = e.getKey();
            int steps = e.getValue();
            long v;
            if (text == null || text.shines == null) {
                v = size - 2 * steps;
            } else {
                Map<String, Integer> names = names(hour, size);
                names.put("steps", steps);
                names.put("kind", all.kind[c]);
                names.put("height", all.height[c]);
                names.put("at", c);
                v = text.shines.value(names, null);
            }
            light[c] = (int) Math.max(0, Math.min(15, v));
        }
        return light;
    }

    private static Map<String, Integer> names(int hour, int size) {
        Map<String, Integer> names = new HashMap<>();
        names.put("hour", hour);
        names.put("phase", phase(hour));
        names.put("size", size);
        return names;
    }

    private int[] lightsNow() {
        World w = all.world;
        return lights(ruling(), w.moon, w.hour, size(w.hour));
    }

    private int pays(World w) {
        PlainText t = ruling();
        if (t == null || t.pays == null) {
            return 1;
        }
        Map<String, Integer> names = names(w.hour, size(w.hour));
        names.put("silver", w.silver);
        names.put("bed", w.moon != NONE && all.kind[w.moon] == 3 ? 1 : 0);
        long v = t.pays.value(names, lights(t, w.moon, w.hour, size(w.hour)));
        return (int) Math.max(0, Math.min(99, v));
    }

    private int kicks(World w, int b) {
        PlainText t = ruling();
        Beast beast = w.beasts.get(b);
        int[] lights = lights(t, w.moon, w.hour, size(w.hour));
        if (t == null || t.kicks == null) {
            return lights[beast.at] / 3;
        }
        Map<String, Integer> names = names(w.hour, size(w.hour));
        names.put("mood", beast.mood);
        names.put("who", b);
        names.put("at", beast.at);
        return (int) Math.max(0, Math.min(10, t.kicks.value(names, lights)));
    }

    private int anHour(World w) {
        if (w.hour == 9999) {
            return 0;
        }
        if (w.moon != NONE) {
            w.silver = Math.min(9999, w.silver + pays(w));
        }
        int count = 0;
        for (int b = 0; b < w.beasts.size(); b++) {
            Beast beast = w.beasts.get(b);
            int odds = kicks(w, b);
            int light = lights(ruling(), w.moon, w.hour, size(w.hour))[beast.at];
            if (w.draw() % 10 < odds) {
                beast.mood = Math.min(9, beast.mood + 1);
                beast.kicked = Math.min(999, beast.kicked + 1);
                w.silver = Math.max(0, w.silver - 1);
                w.book.add(new int[] {w.hour, b, light});
                if (w.book.size() > 30) {
                    w.book.remove(0);
                }
                count++;
            } else {
                beast.mood = Math.max(0, beast.mood - 1);
            }
        }
        w.hour++;
        return count;
    }

    private void step() {
        all.past.add(all.world.copy());
        if (all.past.size() > 30) {
            all.past.remove(0);
        }
    }

    private static int bits(Set<Integer> cells) {
        int b = 0;
        for (int c : cells) {
            b |= 1 << c;
        }
        return b;
    }

    private static int tell(List<int[]> list, int most, int c, int v) {
        if (c == NONE) {
            list.clear();
            return 0;
        }
        if (!in(c, 0, 29) || !in(v, 0, 15) || list.size() == most) {
            return -2;
        }
        list.add(new int[] {c, v});
        return list.size();
    }

    // ---- the face

    public boolean cell(int c, int kind) {
        if (!in(c, 0, 29) || !in(kind, 0, 3)) {
            return false;
        }
        boolean taken = all.world.moon == c;
        for (Beast b : all.world.beasts) {
            taken |= b.at == c;
        }
        if (taken && kind == 1) {
            return false;
        }
        all.kind[c] = kind;
        return true;
    }

    public boolean height(int c, int height) {
        if (!in(c, 0, 29) || !in(height, 0, 9)) {
            return false;
        }
        all.height[c] = height;
        return true;
    }

    public int beast(int c, int mood) {
        if (!noWall(c) || !in(mood, 0, 9) || all.world.beasts.size() == 5) {
            return NONE;
        }
        all.world.beasts.add(new Beast(c, mood, 0));
        return all.world.beasts.size() - 1;
    }

    public int feed(int a, int b, int c, int d, int e) {
        if (tape.length() + 20 > 300) {
            return NONE;
        }
        StringBuilder more = new StringBuilder(tape);
        for (int v : new int[] {a, b, c, d, e}) {
            more.append((char) (v >>> 24)).append((char) (v >>> 16 & 255)).append((char) (v >>> 8 & 255))
                    .append((char) (v & 255));
        }
        tape = more.toString();
        return tape.length();
    }

    public int end(int n) {
        if (n < 0 || n > tape.length()) {
            return NONE;
        }
        tape = tape.substring(0, n);
        return n;
    }

    public int text() {
        if (all.texts.size() == 4) {
            return NONE;
        }
        String was = tape;
        tape = "";
        anyRead = true;
        try {
            PlainText t = PlainText.of(was);
            faultKind = 0;
            faultPlace = NONE;
            all.texts.add(t);
            return all.texts.size() - 1;
        } catch (PlainText.Fault f) {
            faultKind = f.kind;
            faultPlace = f.place;
            return NONE;
        }
    }

    public int fault(int what) {
        if (!anyRead || !in(what, 0, 1)) {
            return NONE;
        }
        return what == 0 ? faultKind : faultPlace;
    }

    public boolean by(int text) {
        if (text != NONE && !in(text, 0, all.texts.size() - 1)) {
            return false;
        }
        all.ruling = text;
        return true;
    }

    private boolean canLodge(int c) {
        return noWall(c) && all.world.moon != c;
    }

    private boolean canLead(int b, int c) {
        if (!in(b, 0, all.world.beasts.size() - 1) || !noWall(c)) {
            return false;
        }
        int at = all.world.beasts.get(b).at;
        return at != c && stepsFrom(at).containsKey(c);
    }

    public boolean lodge(int c) {
        if (!canLodge(c)) {
            return false;
        }
        step();
        all.world.moon = c;
        return true;
    }

    public boolean out() {
        if (all.world.moon == NONE) {
            return false;
        }
        step();
        all.world.moon = NONE;
        return true;
    }

    public boolean lead(int b, int c) {
        if (!canLead(b, c)) {
            return false;
        }
        step();
        all.world.beasts.get(b).at = c;
        return true;
    }

    public int hour(int n) {
        if (!in(n, 1, 60) || all.world.hour + n > 9999) {
            return NONE;
        }
        int count = 0;
        for (int i = 0; i < n; i++) {
            step();
            count += anHour(all.world);
        }
        return count;
    }

    public int played(int text) {
        if (!in(text, 0, all.texts.size() - 1)) {
            return -2;
        }
        List<Object[]> clauses = all.texts.get(text).clauses;
        for (int i = 0; i < clauses.size(); i++) {
            Object[] c = clauses.get(i);
            int a = (Integer) c[1];
            int b = (Integer) c[2];
            boolean done = true;
            switch ((String) c[0]) {
                case "cell" -> done = cell(a, b);
                case "height" -> done = height(b, a);
                case "beast" -> done = beast(a, b) != NONE;
                case "lodge" -> done = lodge(a);
                case "out" -> done = out();
                case "lead" -> done = lead(a, b);
                case "hour" -> {
                    int can = Math.min(a, 9999 - all.world.hour);
                    if (can > 0) {
                        hour(can);
                    }
                    done = can == a;
                }
                default -> done = true;
            }
            if (!done) {
                return i;
            }
        }
        return NONE;
    }

    public int years(int seed, int n) {
        if (!in(seed, 0, 9999) || !in(n, 1, 40)) {
            return NONE;
        }
        step();
        World w = all.world;
        w.x = seed * 2 + 197;
        for (int i = 0; i < n; i++) {
            int x = w.draw();
            int count = w.beasts.size();
            if (x % 5 == 0 && canLodge(x % 30)) {
                w.moon = x % 30;
            } else if (x % 5 == 1 && count > 0 && canLead(x % count, x / 5 % 30)) {
                w.beasts.get(x % count).at = x / 5 % 30;
            } else if (x % 5 == 2 && x % 4 == 0) {
                w.moon = NONE;
            } else if (x % 5 >= 3) {
                anHour(w);
            }
        }
        return w.hour;
    }

    public int undo() {
        if (all.past.isEmpty()) {
            return NONE;
        }
        World was = all.past.remove(all.past.size() - 1);
        for (int b = was.beasts.size(); b < all.world.beasts.size(); b++) {
            was.beasts.add(all.world.beasts.get(b));
        }
        all.world = was;
        return all.past.size();
    }

    public int of(int b, int what) {
        if (!in(b, 0, all.world.beasts.size() - 1) || !in(what, 0, 3)) {
            return NONE;
        }
        Beast beast = all.world.beasts.get(b);
        return new int[] {beast.at, beast.mood, kicks(all.world, b), beast.kicked}[what];
    }

    public int ofCell(int c, int what) {
        if (!in(c, 0, 29) || !in(what, 0, 4)) {
            return -2;
        }
        int there = 0;
        for (int b = 0; b < all.world.beasts.size(); b++) {
            there += all.world.beasts.get(b).at == c ? 1 << b : 0;
        }
        return new int[] {all.kind[c], all.height[c], lightsNow()[c],
            stepsFrom(all.world.moon).getOrDefault(c, NONE), there}[what];
    }

    public int is(int what) {
        World w = all.world;
        if (!in(what, 0, 6)) {
            return -2;
        }
        return new int[] {w.hour, phase(w.hour), size(w.hour), w.moon, w.silver, w.x, pays(w)}[what];
    }

    public int book(int i, int what) {
        List<int[]> book = all.world.book;
        if (i == NONE) {
            return book.size();
        }
        return in(i, 0, book.size() - 1) && in(what, 0, 2) ? book.get(i)[what] : -2;
    }

    public int foretold(int n, int what, int b) {
        if (!in(n, 1, 60) || !in(what, 0, 2) || what == 1 && !in(b, 0, all.world.beasts.size() - 1)) {
            return NONE;
        }
        World w = all.world.copy();
        int count = 0;
        for (int i = 0; i < n; i++) {
            count += anHour(w);
        }
        return what == 0 ? w.silver : what == 1 ? w.beasts.get(b).mood : count;
    }

    public int steps(int a, int b) {
        return stepsFrom(a).getOrDefault(b, NONE);
    }

    public int way(int a, int b, int i) {
        Integer far = stepsFrom(a).get(b);
        if (far == null || i < 0 || i >= far) {
            return -2;
        }
        Map<Integer, Integer> toGoal = stepsFrom(b);
        int at = a;
        for (int k = 0; k <= i; k++) {
            int best = 99;
            for (int s : sides(at)) {
                if (toGoal.containsKey(s) && toGoal.get(s) < toGoal.get(at)) {
                    best = Math.min(best, s);
                }
            }
            at = best;
        }
        return at;
    }

    public int rooms(int what) {
        if (!in(what, 0, 1)) {
            return NONE;
        }
        Set<Integer> rooms = new HashSet<>();
        int most = 0;
        for (int c = 0; c < 30; c++) {
            if (noWall(c)) {
                Set<Integer> room = stepsFrom(c).keySet();
                rooms.add(bits(room));
                most = Math.max(most, room.size());
            }
        }
        return what == 0 ? rooms.size() : most;
    }

    public int room(int c) {
        return noWall(c) ? bits(stepsFrom(c).keySet()) : NONE;
    }

    public int work(int c, int need) {
        return tell(all.work, 6, c, need);
    }

    public int dark(int c, int most) {
        return tell(all.dark, 6, c, most);
    }

    public int best(boolean light) {
        int best = NONE;
        int cell = NONE;
        for (int c = 0; c < 30; c++) {
            if (!noWall(c)) {
                continue;
            }
            int[] lights = lights(ruling(), c, all.world.hour, size(all.world.hour));
            boolean good = true;
            for (int[] w : all.work) {
                good &= lights[w[0]] >= w[1];
            }
            for (int[] d : all.dark) {
                good &= lights[d[0]] <= d[1];
            }
            int sum = Arrays.stream(lights).sum();
            if (good && sum > best) {
                best = sum;
                cell = c;
            }
        }
        return light ? best : cell;
    }

    public int lit(int n) {
        if (!in(n, 0, 15)) {
            return NONE;
        }
        Set<Integer> found = new TreeSet<>();
        for (int c = 0; c < 30; c++) {
            if (noWall(c) && lightsNow()[c] >= n) {
                found.add(c);
            }
        }
        return bits(found);
    }

    public int seen(int c, int light) {
        return tell(all.seen, 8, c, light);
    }

    private List<int[]> places() {
        List<int[]> found = new ArrayList<>();
        for (int c = 0; c < 30; c++) {
            for (int size = 0; size <= 15 && noWall(c); size++) {
                int[] lights = lights(ruling(), c, all.world.hour, size);
                boolean so = true;
                for (int[] s : all.seen) {
                    so &= lights[s[0]] == s[1];
                }
                if (so) {
                    found.add(new int[] {c, size});
                }
            }
        }
        return found;
    }

    public int fits(int what) {
        if (!in(what, 0, 2)) {
            return NONE;
        }
        List<int[]> places = places();
        int cells = 0;
        int sizes = 0;
        for (int[] p : places) {
            cells |= 1 << p[0];
            sizes |= 1 << p[1];
        }
        return new int[] {places.size(), cells, sizes}[what];
    }

    public int ask() {
        List<int[]> places = places();
        if (places.isEmpty()) {
            return NONE;
        }
        List<Set<Integer>> unlike = new ArrayList<>();
        for (int c = 0; c < 30; c++) {
            unlike.add(new HashSet<>());
        }
        for (int[] p : places) {
            int[] lights = lights(ruling(), p[0], all.world.hour, p[1]);
            for (int c = 0; c < 30; c++) {
                unlike.get(c).add(lights[c]);
            }
        }
        int best = NONE;
        for (int c = 0; c < 30; c++) {
            if (noWall(c) && (best == NONE || unlike.get(c).size() > unlike.get(best).size())) {
                best = c;
            }
        }
        return best;
    }

    public int seats(int n, boolean ways) {
        if (!in(n, 0, 15)) {
            return NONE;
        }
        int[] found = new int[2];
        seat(lit(n), 0, 0, 0, found);
        return ways ? found[1] : found[0];
    }

    /** Every set of seats is gone through. */
    private static void seat(int lit, int c, int taken, int count, int[] found) {
        if (c == 30) {
            if (count > found[0]) {
                found[0] = count;
                found[1] = 0;
            }
            found[1] += count == found[0] ? 1 : 0;
            return;
        }
        seat(lit, c + 1, taken, count, found);
        if ((lit >> c & 1) == 0) {
            return;
        }
        for (int s : sides(c)) {
            if ((taken >> s & 1) != 0) {
                return;
            }
        }
        seat(lit, c + 1, taken | 1 << c, count + 1, found);
    }

    public int flood(int level) {
        if (!in(level, 0, 9)) {
            return NONE;
        }
        Set<Integer> wet = new TreeSet<>();
        boolean more = true;
        while (more) {
            more = false;
            for (int c = 0; c < 30; c++) {
                boolean comes = sides(c).size() < 4;
                for (int s : sides(c)) {
                    comes |= wet.contains(s);
                }
                if (comes && all.height[c] < level) {
                    more |= wet.add(c);
                }
            }
        }
        return bits(wet);
    }

    public int wet(int c) {
        for (int level = 1; level <= 9 && in(c, 0, 29); level++) {
            if ((flood(level) >> c & 1) != 0) {
                return level;
            }
        }
        return NONE;
    }

    public boolean gain(int month, int gain) {
        if (!in(month, 0, 11) || !in(gain, -99, 99)) {
            return false;
        }
        all.gains[month] = gain;
        return true;
    }

    public int lease(int k, int gap, int i) {
        if (!in(k, 0, 12) || !in(gap, 0, 11) || !in(i, -1, 11)) {
            return -10000;
        }
        List<Integer> best = new ArrayList<>();
        for (int set = 1; set < 4096; set++) {
            List<Integer> months = new ArrayList<>();
            boolean fit = true;
            for (int m = 0; m < 12; m++) {
                if ((set >> m & 1) != 0) {
                    fit &= months.isEmpty() || m - months.get(months.size() - 1) - 1 >= gap;
                    months.add(m);
                }
            }
            if (fit && months.size() <= k && better(months, best)) {
                best = months;
            }
        }
        return i == NONE ? sum(best) : best.contains(i) ? 1 : 0;
    }

    private int sum(List<Integer> months) {
        int sum = 0;
        for (int m : months) {
            sum += all.gains[m];
        }
        return sum;
    }

    private boolean better(List<Integer> a, List<Integer> b) {
        if (sum(a) != sum(b)) {
            return sum(a) > sum(b);
        }
        if (a.size() != b.size()) {
            return a.size() < b.size();
        }
        for (int i = 0; i < a.size(); i++) {
            if (!a.get(i).equals(b.get(i))) {
                return a.get(i) < b.get(i);
            }
        }
        return false;
    }

    public int read(int c, int light) {
        return tell(all.read, 8, c, light);
    }

    public int whose() {
        int found = 0;
        World w = all.world;
        for (int t = 0; t < all.texts.size(); t++) {
            int[] lights = lights(all.texts.get(t), w.moon, w.hour, size(w.hour));
            boolean so = true;
            for (int[] r : all.read) {
                so &= lights[r[0]] == r[1];
            }
            found |= so ? 1 << t : 0;
        }
        return found;
    }

    public int till(int size) {
        for (int h = 0; h <= 720 && in(size, 0, 15); h++) {
            if (size(all.world.hour + h) == size) {
                return h;
            }
        }
        return NONE;
    }

    public int brightest() {
        int[] lights = lightsNow();
        int most = Arrays.stream(lights).max().getAsInt();
        for (int c = 0; c < 30 && most > 0; c++) {
            if (lights[c] == most) {
                return c;
            }
        }
        return NONE;
    }

    public int wildest() {
        for (int mood = 9; mood >= 0; mood--) {
            for (int b = 0; b < all.world.beasts.size(); b++) {
                if (all.world.beasts.get(b).mood == mood) {
                    return b;
                }
            }
        }
        return NONE;
    }

    public int lonely() {
        int found = 0;
        List<Beast> beasts = all.world.beasts;
        for (int b = 0; b < beasts.size(); b++) {
            Set<Integer> room = stepsFrom(beasts.get(b).at).keySet();
            boolean other = false;
            for (int o = 0; o < beasts.size(); o++) {
                other |= o != b && room.contains(beasts.get(o).at);
            }
            found |= other ? 0 : 1 << b;
        }
        return found;
    }

    public int ledger(int b) {
        if (!in(b, -1, all.world.beasts.size() - 1)) {
            return -2;
        }
        int count = 0;
        for (int[] k : all.world.book) {
            count += b == NONE || k[1] == b ? 1 : 0;
        }
        return count;
    }

    public int image() {
        image = all.copy();
        return all.world.hour;
    }

    public int back() {
        all = image.copy();
        return all.world.hour;
    }

    public int about(int what) {
        if (!in(what, 0, 8)) {
            return -2;
        }
        return new int[] {all.world.beasts.size(), all.texts.size(), all.ruling, all.past.size(), all.work.size(),
            all.dark.size(), all.seen.size(), all.read.size(), tape.length()}[what];
    }
}
