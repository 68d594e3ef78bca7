import java.util.ArrayDeque;
import java.util.ArrayList;
import java.util.Arrays;
import java.util.Deque;
import java.util.HashMap;
import java.util.HashSet;
import java.util.List;
import java.util.Map;
import java.util.Set;

/** The document once more, as plainly and wastefully as can be: CompareTest sets DoorFleet against it. */
final class Model {
    static final class Broken extends RuntimeException {
        Broken() {
            super(null, null, false, false);
        }
    }

    static final class Door {
        int wide, wood, home, knocks, hangs = -1, cell = -1, caught;

        Door copy() {
            Door d = new Door();
            d.wide = wide;
            d.wood = wood;
            d.home = home;
            d.knocks = knocks;
            d.hangs = hangs;
            d.cell = cell;
            d.caught = caught;
            return d;
        }

        boolean lost() {
            return hangs < 0 && cell < 0;
        }
    }

    static final class World {
        List<Integer> houses = new ArrayList<>();
        List<Door> doors = new ArrayList<>();
        int[] fish = new int[25];
        int[] drift = new int[25];
        List<Integer> foes = new ArrayList<>();
        int day, mood, force = -1;
        List<List<ModelReader.Clause>> laws = new ArrayList<>();

        World copy() {
            World w = new World();
            w.houses.addAll(houses);
            for (Door d : doors) w.doors.add(d.copy());
            w.fish = fish.clone();
            w.drift = drift.clone();
            w.foes.addAll(foes);
            w.day = day;
            w.mood = mood;
            w.force = force;
            w.laws.addAll(laws);
            return w;
        }

        Door in(int house) {
            for (Door d : doors) if (d.hangs == house) return d;
            return null;
        }

        int open() {
            int n = 0;
            for (int h = 0; h < houses.size(); h++) if (in(h) == null) n++;
            return n;
        }

        int lost() {
            int n = 0;
            for (Door d : doors) if (d.lost()) n++;
            return n;
        }
    }

    record Undo(int kind, World fromThen) {
    }

    World w = new World();
    World[] images = new World[2];
    World summer;
    String tape = "";
    List<Undo> undos = new ArrayList<>();
    int fault = -1, foam = 0, stopped = -1, status = 0;
    int[] refused = new int[7];

    Model() {
        Arrays.fill(w.fish, 10);
    }

    private int no(int by) {
        status = by;
        refused[-by]++;
        return by;
    }

    private int yes(int answer) {
        status = 0;
        return answer;
    }

    private boolean isDoor(int d) {
        return 0 <= d && d < w.doors.size();
    }

    private boolean isHouse(int h) {
        return 0 <= h && h < w.houses.size();
    }

    private static boolean in(int value, int least, int most) {
        return least <= value && value <= most;
    }

    int house(int size) {
        if (!in(size, 1, 9)) return no(-1);
        if (w.houses.size() == 8) return no(-5);
        w.houses.add(size);
        return yes(w.houses.size() - 1);
    }

    int door(int wide, int wood, int home, int knocks) {
        if (!in(wide, 1, 9) || !in(wood, 0, 3) || !in(knocks, 0, 63)) return no(-1);
        if (!isHouse(home)) return no(-2);
        if (w.in(home) != null) return no(-3);
        if (w.doors.size() == 8) return no(-5);
        Door d = new Door();
        d.wide = wide;
        d.wood = wood;
        d.home = home;
        d.knocks = knocks;
        d.hangs = home;
        w.doors.add(d);
        undos.clear();
        return yes(w.doors.size() - 1);
    }

    int of(int door, int what) {
        if (!isDoor(door)) return -1;
        Door d = w.doors.get(door);
        int[] told = {d.wide, d.wood, d.home, d.knocks, d.hangs, d.cell, d.caught, d.lost() ? 1 : 0,
            barred(w, door) ? 1 : 0};
        return in(what, 0, 8) ? told[what] : -1;
    }

    int frame(int house, int what) {
        if (!isHouse(house)) return -1;
        if (what == 0) return w.houses.get(house);
        if (what == 1) return w.doors.indexOf(w.in(house));
        return what >= 2 && isDoor(what - 2) ? fits(w, what - 2, house) ? 1 : 0 : -1;
    }

    int put(int cell, int what, int value) {
        if (!in(cell, 0, 24) || !in(what, 0, 1) || !in(value, 0, what == 0 ? 99 : 4)) return no(-1);
        int[] row = what == 0 ? w.fish : w.drift;
        int was = row[cell];
        row[cell] = value;
        undos.clear();
        return yes(was);
    }

    int at(int cell, int what) {
        if (!in(cell, 0, 24) || !in(what, 0, 2)) return -1;
        int there = 0;
        for (Door d : w.doors) if (d.cell == cell) there++;
        return what == 0 ? w.fish[cell] : what == 1 ? w.drift[cell] : there;
    }

    int asks(int door, int cell, int what) {
        if (!isDoor(door) || !in(cell, 0, 24) || !in(what, 0, 1)) return -1;
        return what == 0 ? catches(w, door, cell, w.fish[cell]) : slams(w, door, cell);
    }

    int foe(int strong) {
        if (!in(strong, 1, 9)) return no(-1);
        if (w.foes.size() == 8) return no(-5);
        w.foes.add(strong);
        return yes(w.foes.size() - 1);
    }

    int peace() {
        int were = w.foes.size();
        w.foes.clear();
        return were;
    }

    int terms(int what, int value) {
        if (!in(what, 0, 1) || !in(value, 0, what == 0 ? 999 : 9)) return no(-1);
        int was = what == 0 ? w.day : w.mood;
        if (what == 0) w.day = value;
        else w.mood = value;
        undos.clear();
        return yes(was);
    }

    int feed(int a, int b, int c, int d, int e) {
        if (tape.length() > 380) return -1;
        for (int n : new int[] {a, b, c, d, e}) {
            tape += "" + (char) (n >> 24 & 255) + (char) (n >> 16 & 255) + (char) (n >> 8 & 255) + (char) (n & 255);
        }
        return tape.length();
    }

    int end(int n) {
        if (n < 0 || n > tape.length()) return -1;
        tape = tape.substring(0, n);
        return n;
    }

    int row() {
        String text = tape;
        tape = "";
        if (text.isEmpty()) return no(-6);
        int told = 0;
        foam = 0;
        for (int i = 0; i < text.length(); i += 2) {
            boolean can = i + 1 < text.length() && i / 2 < 25 && text.charAt(i) <= 99 && text.charAt(i + 1) <= 4;
            if (can) {
                w.fish[i / 2] = text.charAt(i);
                w.drift[i / 2] = text.charAt(i + 1);
                told++;
            } else {
                foam++;
            }
        }
        undos.clear();
        return yes(told);
    }

    int foam() {
        return foam;
    }

    private List<ModelReader.Clause> read(boolean ordering) {
        ModelReader reader = new ModelReader(tape, ordering);
        tape = "";
        List<ModelReader.Clause> text = reader.read();
        fault = reader.fault;
        return text;
    }

    int law() {
        if (w.laws.size() == 6) {
            tape = "";
            return no(-5);
        }
        List<ModelReader.Clause> text = read(false);
        if (text == null) return no(-6);
        w.laws.add(text);
        return yes(w.laws.size() - 1);
    }

    int orders() {
        stopped = -1;
        List<ModelReader.Clause> text = read(true);
        if (text == null) return no(-6);
        World then = w.copy();
        List<Undo> thenUndos = new ArrayList<>(undos);
        Map<String, Integer> told = new HashMap<>();
        told.put("done", 0);
        told.put("latest", -1);
        for (int c = 0; c < text.size(); c++) {
            for (int t = 0; t < text.get(c).times; t++) {
                if (!step(text.get(c), told)) {
                    w = then;
                    undos = thenUndos;
                    stopped = c;
                    return no(-3);
                }
            }
        }
        return yes(told.get("done"));
    }

    private boolean step(ModelReader.Clause c, Map<String, Integer> told) {
        told.put("day", w.day);
        told.put("open", w.open());
        for (int d = 0; d < 8; d++) {
            told.put("at" + d, isDoor(d) ? w.doors.get(d).cell : -1);
            told.put("house" + d, isDoor(d) ? w.doors.get(d).hangs : -1);
            told.put("catch" + d, isDoor(d) ? w.doors.get(d).caught : 0);
        }
        if (c.test != null && !so(c.test, told)) return true;
        int a = 0;
        int b = 0;
        try {
            if (c.first != null) a = (int) c.first.value(told);
            if (c.second != null) b = (int) c.second.value(told);
        } catch (Broken e) {
            return false;
        }
        int kind = List.of("launch", "sail", "fish", "hang", "tide").indexOf(c.verb);
        int answer = act(kind, a, b);
        if (answer < 0) return false;
        told.merge("done", 1, Integer::sum);
        if (kind == 2) told.put("latest", answer);
        return true;
    }

    private static boolean so(ModelReader.Node test, Map<String, Integer> told) {
        try {
            return test.value(told) == 1;
        } catch (Broken e) {
            return false;
        }
    }

    int fault() {
        return fault;
    }

    int stopped() {
        return stopped;
    }

    int force(int law) {
        if (!in(law, -1, w.laws.size() - 1)) return no(-2);
        int was = w.force;
        w.force = law;
        return yes(was);
    }

    private static int beside(int cell, int by) {
        int x = cell % 5 + (by == 2 ? 1 : by == 4 ? -1 : 0);
        int y = cell / 5 + (by == 3 ? 1 : by == 1 ? -1 : 0);
        return in(x, 0, 4) && in(y, 0, 4) ? 5 * y + x : -1;
    }

    private int act(int kind, int a, int b) {
        if (kind == 1 && !in(b, 1, 4)) return -1;
        if (kind != 4 && !isDoor(a)) return -2;
        if (kind == 3 && !isHouse(b)) return -2;
        World then = w.copy();
        int answer = -3;
        Door d = kind == 4 ? null : w.doors.get(a);
        if (kind == 0 && d.hangs >= 0 && !barred(w, a)) {
            d.hangs = -1;
            d.cell = 0;
            answer = 0;
        }
        if (kind == 1 && d.cell >= 0 && beside(d.cell, b) >= 0) answer = d.cell = beside(d.cell, b);
        if (kind == 2 && d.cell >= 0) answer = fishing(w, a);
        if (kind == 3 && d.cell == 0 && w.in(b) == null && fits(w, a, b)) {
            d.cell = -1;
            d.hangs = b;
            answer = d.caught;
            d.caught = 0;
        }
        if (kind == 4 && w.day < 999) answer = flow(w);
        if (answer >= 0) {
            undos.add(new Undo(kind, then));
            if (undos.size() > 16) undos.remove(0);
        }
        return answer;
    }

    private static int fishing(World w, int a) {
        Door d = w.doors.get(a);
        int more = catches(w, a, d.cell, w.fish[d.cell]);
        d.caught = Math.min(999, d.caught + more);
        w.fish[d.cell] -= more;
        return more;
    }

    private static int flow(World w) {
        int gone = 0;
        for (Door d : w.doors) {
            if (d.cell < 0 || w.drift[d.cell] == 0) continue;
            d.cell = beside(d.cell, w.drift[d.cell]);
            if (d.cell < 0) gone++;
        }
        for (int c = 0; c < 25; c++) w.fish[c] = Math.min(99, w.fish[c] + 1);
        w.day++;
        return gone;
    }

    private int deed(int kind, int a, int b) {
        int answer = act(kind, a, b);
        return answer < 0 ? no(answer) : yes(answer);
    }

    int launch(int door) {
        return deed(0, door, 0);
    }

    int sail(int door, int by) {
        return deed(1, door, by);
    }

    int fish(int door) {
        return deed(2, door, 0);
    }

    int hang(int door, int house) {
        return deed(3, door, house);
    }

    int tide() {
        return deed(4, 0, 0);
    }

    int undo() {
        if (undos.isEmpty()) return no(-3);
        Undo u = undos.remove(undos.size() - 1);
        // HOUSES, FOES, LAWS and what is in FORCE are no deeds: they stay as they are now.
        w.doors = u.fromThen.copy().doors;
        w.fish = u.fromThen.fish.clone();
        w.day = u.fromThen.day;
        return yes(u.kind);
    }

    // ---- laws ----

    private static Map<String, Integer> facts(World w, int door, int house, int cell, int fish) {
        Door d = w.doors.get(door);
        Map<String, Integer> told = new HashMap<>();
        told.put("door", door);
        told.put("wide", d.wide);
        told.put("wood", d.wood);
        told.put("home", d.home);
        told.put("house", house);
        told.put("size", house < 0 ? -1 : w.houses.get(house));
        told.put("cell", cell);
        told.put("fish", fish);
        told.put("catch", d.caught);
        told.put("day", w.day);
        told.put("mood", w.mood);
        return told;
    }

    private static boolean has(World w, String verb) {
        if (w.force < 0) return false;
        for (ModelReader.Clause c : w.laws.get(w.force)) if (c.verb.equals(verb)) return true;
        return false;
    }

    /** What the last CLAUSE that HOLDS tells, null without. */
    private static Long told(World w, String verb, Map<String, Integer> facts) {
        Long last = null;
        if (w.force < 0) return null;
        for (ModelReader.Clause c : w.laws.get(w.force)) {
            if (!c.verb.equals(verb)) continue;
            try {
                if (c.test != null && c.test.value(facts) != 1) continue;
                last = c.first == null ? 1L : c.first.value(facts);
            } catch (Broken e) {
                continue;
            }
        }
        return last;
    }

    private static int catches(World w, int door, int cell, int fish) {
        Long told = told(w, "catches", facts(w, door, -1, cell, fish));
        long most = told == null ? w.doors.get(door).wide * 3 : Math.max(0, Math.min(99, told));
        return (int) Math.min(most, fish);
    }

    private static int slams(World w, int door, int cell) {
        Long told = told(w, "slams", facts(w, door, -1, cell, w.fish[cell]));
        return told == null ? 1 : (int) Math.max(0, Math.min(10, told));
    }

    private static boolean fits(World w, int door, int house) {
        if (!has(w, "fits")) return Math.abs(w.doors.get(door).wide - w.houses.get(house)) <= 1;
        return told(w, "fits", facts(w, door, house, -1, -1)) != null;
    }

    private static boolean barred(World w, int door) {
        int house = w.doors.get(door).hangs;
        return house >= 0 && told(w, "bars", facts(w, door, house, -1, -1)) != null;
    }

    // ---- on paper ----

    int fleet(int fish, int what) {
        if (!in(fish, 0, 9999) || !in(what, 0, 1)) return -1;
        int n = w.doors.size();
        for (int many = 0; many <= n; many++) {
            for (int set = 0; set < 1 << n; set++) {
                if (Integer.bitCount(set) != many) continue;
                int sum = 0;
                boolean can = true;
                for (int d = 0; d < n; d++) {
                    if ((set >> d & 1) == 0) continue;
                    can &= w.doors.get(d).hangs >= 0 && !barred(w, d);
                    World x = w.copy();
                    x.doors.get(d).caught = 0;
                    sum += catches(x, d, 0, 99);
                }
                if (can && sum >= fish) return what == 0 ? many : set;
            }
        }
        return -1;
    }

    private interface Worth {
        int of(int door, int other);
    }

    private static final class Best {
        int score = -1;
        int[] row;
    }

    private static final Map<String, Best> TRIED = new HashMap<>();

    private Best best(int others, Worth worth) {
        StringBuilder key = new StringBuilder();
        int[] hopes = new int[w.doors.size() + 1];
        for (int d = w.doors.size() - 1; d >= 0; d--) {
            int most = 0;
            for (int o = 0; o < others; o++) {
                key.append(worth.of(d, o)).append(' ');
                most = Math.max(most, worth.of(d, o));
            }
            key.append('/');
            hopes[d] = hopes[d + 1] + most;
        }
        Best best = TRIED.get(key.toString());
        if (best != null) return best;
        best = new Best();
        tryAll(0, others, worth, 0, 0, new int[w.doors.size()], best, hopes);
        TRIED.put(key.toString(), best);
        return best;
    }

    private static final Map<String, Integer> SWAPPED = new HashMap<>();

    /** All rows in their order: the first of the greatest worth. */
    private void tryAll(int d, int others, Worth worth, int used, int score, int[] row, Best best, int[] hopes) {
        if (score + hopes[d] <= best.score) return;
        if (d == w.doors.size()) {
            best.score = score;
            best.row = row.clone();
            return;
        }
        for (int o = 0; o < others; o++) {
            int more = worth.of(d, o);
            if (more < 0 || (used >> o & 1) == 1) continue;
            row[d] = o;
            tryAll(d + 1, others, worth, used | 1 << o, score + more, row, best, hopes);
        }
        row[d] = 100;
        tryAll(d + 1, others, worth, used, score, row, best, hopes);
    }

    int hanging(int what) {
        int n = w.doors.size();
        boolean[][] can = new boolean[n][w.houses.size()];
        for (int d = 0; d < n; d++) {
            for (int h = 0; h < w.houses.size(); h++) can[d][h] = !w.doors.get(d).lost() && fits(w, d, h);
        }
        Best best = best(w.houses.size(), (d, h) -> !can[d][h] ? -1 : w.doors.get(d).home == h ? 101 : 100);
        if (what == 0) return best.score / 100;
        if (what == 1) return best.score % 100;
        return what >= 2 && isDoor(what - 2) && !w.doors.get(what - 2).lost() ? best.row[what - 2] : -1;
    }

    int battle(int what) {
        Best best = best(w.foes.size(),
            (d, f) -> w.doors.get(d).lost() ? -1 : w.doors.get(d).wide > w.foes.get(f) ? 1 : 0);
        if (what == 0) return best.score;
        return what >= 1 && isDoor(what - 1) && !w.doors.get(what - 1).lost() ? best.row[what - 1] : -1;
    }

    /** Swaps, breadth first; only HOUSES that take part are of any use. */
    int right() {
        int n = w.houses.size();
        Set<Integer> homes = new HashSet<>();
        char[] row = new char[n];
        Arrays.fill(row, '.');
        for (Door d : w.doors) {
            if (d.hangs < 0) continue;
            if (!homes.add(d.home)) return -1;
            row[d.hangs] = (char) ('0' + d.home);
        }
        String first = new String(row);
        if (SWAPPED.containsKey(first)) return SWAPPED.get(first);
        Map<String, Integer> seen = new HashMap<>();
        Deque<String> queue = new ArrayDeque<>();
        queue.add(first);
        seen.put(first, 0);
        while (!queue.isEmpty()) {
            String s = queue.remove();
            boolean all = true;
            for (int h = 0; h < n; h++) all &= s.charAt(h) == '.' || s.charAt(h) == '0' + h;
            if (all) {
                SWAPPED.put(first, seen.get(s));
                return seen.get(s);
            }
            for (int a = 0; a < n; a++) {
                for (int b = a + 1; b < n; b++) {
                    if (s.charAt(a) == s.charAt(b)) continue;
                    char[] t = s.toCharArray();
                    t[a] = s.charAt(b);
                    t[b] = s.charAt(a);
                    String next = new String(t);
                    if (seen.putIfAbsent(next, seen.get(s) + 1) == null) queue.add(next);
                }
            }
        }
        return -2;
    }

    int heard(int knocks, int k) {
        if (!in(knocks, 0, 63) || !in(k, 0, 6)) return -1;
        int bits = 0;
        for (int d = 0; d < w.doors.size(); d++) if (unlike(d, knocks) <= k) bits |= 1 << d;
        return bits;
    }

    private int unlike(int door, int knocks) {
        int n = 0;
        for (int b = 0; b < 6; b++) if ((w.doors.get(door).knocks >> b & 1) != (knocks >> b & 1)) n++;
        return n;
    }

    int knock(int what) {
        if (!in(what, 0, 1)) return -1;
        for (int least = 6; least >= 0; least--) {
            for (int k = 0; k < 64; k++) {
                boolean all = true;
                for (int d = 0; d < w.doors.size(); d++) all &= unlike(d, k) >= least;
                if (all) return what == 0 ? k : least;
            }
        }
        return -2;
    }

    int wreck(int cell, int n) {
        if (!in(cell, 0, 24) || !in(n, 0, 99)) return -1;
        Set<Integer> from = Set.of(cell);
        for (int t = 0; t < n; t++) {
            Set<Integer> ahead = new HashSet<>();
            for (int c = 0; c < 25; c++) {
                if (from.contains(w.drift[c] == 0 ? c : beside(c, w.drift[c]))) ahead.add(c);
            }
            from = ahead;
        }
        int bits = 0;
        for (int c : from) bits |= 1 << c;
        return bits;
    }

    private int fewest;
    private List<Integer> way;

    int search(int cells, int i) {
        if (cells < 0 || cells >= 1 << 25 || Integer.bitCount(cells) > 7) return -1;
        fewest = Integer.MAX_VALUE;
        walk(cells, 0, 0, new ArrayList<>());
        return i == -1 ? fewest : i >= 0 && i < way.size() ? way.get(i) : -1;
    }

    private void walk(int left, int at, int steps, List<Integer> row) {
        if (left == 0 && steps < fewest) {
            fewest = steps;
            way = List.copyOf(row);
        }
        for (int c = 0; c < 25; c++) {
            if ((left >> c & 1) == 0) continue;
            row.add(c);
            walk(left & ~(1 << c), c, steps + Math.abs(at % 5 - c % 5) + Math.abs(at / 5 - c / 5), row);
            row.remove(row.size() - 1);
        }
    }

    long afloat(int door, int n) {
        if (!isDoor(door) || w.doors.get(door).cell < 0 || !in(n, 0, 60)) return -1;
        long chance = 1_000_000_000_000L;
        int cell = w.doors.get(door).cell;
        for (int t = 0; t < n && cell >= 0; t++) {
            chance = chance * (10 - slams(w, door, cell)) / 10;
            if (w.drift[cell] != 0) cell = beside(cell, w.drift[cell]);
        }
        return cell < 0 ? 0 : chance;
    }

    int guards(int what) {
        if (!in(what, 0, 1)) return -1;
        int n = w.houses.size();
        for (int many = 0; many <= n; many++) {
            for (int set = 0; set < 1 << n; set++) {
                if (Integer.bitCount(set) != many) continue;
                boolean all = true;
                for (int h = 0; h < n; h++) {
                    boolean near = false;
                    for (int g = 0; g < n; g++) near |= (set >> g & 1) == 1 && Math.abs(g - h) <= 1;
                    all &= w.in(h) != null || near;
                }
                if (all) return what == 0 ? many : set;
            }
        }
        return -2;
    }

    int share(int whale, int door) {
        if (!in(whale, 0, 99999) || !isDoor(door) || w.doors.get(door).cell < 0) return -1;
        int all = 0;
        for (Door d : w.doors) if (d.cell >= 0) all += d.wide;
        int[] parts = new int[w.doors.size()];
        List<Integer> line = new ArrayList<>();
        int left = whale;
        for (int d = 0; d < parts.length; d++) {
            if (w.doors.get(d).cell < 0) continue;
            parts[d] = whale * w.doors.get(d).wide / all;
            left -= parts[d];
            line.add(d);
        }
        int sum = all;
        line.sort((a, b) -> whale * w.doors.get(b).wide % sum - whale * w.doors.get(a).wide % sum);
        for (int i = 0; i < left; i++) parts[line.get(i)]++;
        return parts[door];
    }

    int summers(int seed, int n) {
        if (!in(seed, 0, 1_000_000) || !in(n, 1, 60)) return no(-1);
        summer = w.copy();
        long s = seed;
        for (int t = 0; t < n; t++) {
            if (summer.day >= 999) continue;
            for (int d = 0; d < summer.doors.size(); d++) {
                Door door = summer.doors.get(d);
                if (door.cell < 0) continue;
                fishing(summer, d);
                s = (s * 1103 + 12345) % 1_000_003;
                if (s % 10 < slams(summer, d, door.cell)) door.cell = -1;
            }
            flow(summer);
        }
        return yes(summer.lost() - w.lost());
    }

    int drawn(int k, int what) {
        if (summer == null || k < 0 || !in(what, 0, 2)) return -1;
        if (what == 2) return k < 25 ? summer.fish[k] : -1;
        if (k >= summer.doors.size()) return -1;
        return what == 0 ? summer.doors.get(k).cell : summer.doors.get(k).caught;
    }

    int image(int k) {
        if (!in(k, 0, 1)) return no(-1);
        images[k] = w.copy();
        return yes(0);
    }

    int back(int k) {
        if (!in(k, 0, 1)) return no(-1);
        if (images[k] == null) return no(-2);
        w = images[k].copy();
        undos.clear();
        return yes(0);
    }

    int count(int what) {
        int[] told = {w.houses.size(), w.doors.size(), w.foes.size(), w.open(), w.lost(), w.laws.size(),
            undos.size(), tape.length(), refused[1], refused[2], refused[3], refused[5], refused[6], w.force,
            w.day, w.mood};
        return in(what, 0, 15) ? told[what] : -1;
    }

    int status() {
        return status;
    }
}
