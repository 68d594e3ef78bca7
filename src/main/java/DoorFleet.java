import java.util.Arrays;

/** A fleet of doors that go to sea for the summer. */
public final class DoorFleet {
    public static final int NONE = -1;

    private static final int BAD_NUMBER = -1;
    private static final int NOT_THERE = -2;
    private static final int NOT_NOW = -3;
    private static final int NO_ROOM = -5;
    private static final int BAD_TEXT = -6;

    private static final int HOUSES = 8;
    private static final int DOORS = 8;
    private static final int FOES = 8;
    private static final int LAWS = 6;
    private static final int CELLS = 25;
    private static final int SIDE = 5;
    private static final int HARBOUR = 0;
    private static final int MOST_FISH = 99;
    private static final int MOST_CATCH = 999;
    private static final int LAST_DAY = 999;
    private static final int IMAGES = 2;
    private static final int TAPE = 400;
    private static final int UNDONE = 16;
    private static final int CLAUSES = 12;
    private static final int TIMES = 20;
    private static final int PARTS = 50;
    private static final int BRACKETS = 8;
    private static final int SEARCHED = 7;
    private static final int UNPAIRED = 100;
    private static final long CERTAIN = 1_000_000_000_000L;

    // What a CLAUSE of a LAW begins with, by the order of these words in WORDS.
    private static final int CATCHES = 0;
    private static final int SLAMS = 1;
    private static final int FITS = 2;
    private static final int BARS = 3;

    // What can be ordered and undone; undo() answers these numbers.
    private static final int LAUNCH = 0;
    private static final int SAIL = 1;
    private static final int FISH = 2;
    private static final int HANG = 3;
    private static final int TIDE = 4;

    // A word's number is its place in this row; the first eleven are the words that LAWS ask with.
    private static final String WORDS = "door wide wood home house size cell fish catch day mood done latest open at catches slams fits bars launch sail hang tide by in times if or and not ";
    private static final int WORD_DOOR = 0;
    private static final int WORD_WIDE = 1;
    private static final int WORD_WOOD = 2;
    private static final int WORD_HOME = 3;
    private static final int WORD_HOUSE = 4;
    private static final int WORD_SIZE = 5;
    private static final int WORD_CELL = 6;
    private static final int WORD_FISH = 7;
    private static final int WORD_CATCH = 8;
    private static final int WORD_DAY = 9;
    private static final int WORD_MOOD = 10;
    private static final int WORD_DONE = 11;
    private static final int WORD_LATEST = 12;
    private static final int WORD_OPEN = 13;
    private static final int WORD_AT = 14;
    private static final int WORD_CATCHES = 15;
    private static final int WORD_BARS = 18;
    private static final int WORD_LAUNCH = 19;
    private static final int WORD_SAIL = 20;
    private static final int WORD_HANG = 21;
    private static final int WORD_TIDE = 22;
    private static final int WORD_BY = 23;
    private static final int WORD_IN = 24;
    private static final int WORD_TIMES = 25;
    private static final int WORD_IF = 26;
    private static final int WORD_OR = 27;
    private static final int WORD_AND = 28;
    private static final int WORD_NOT = 29;

    // Where a word's value stands while a TEXT is asked: words without D by their own numbers,
    // those with D behind them, one place for each DOOR.
    private static final int FACT_AT = 14;
    private static final int FACT_HOUSE = 22;
    private static final int FACT_CATCH = 30;
    private static final int FACTS = 38;

    // TOKENS: a single byte is its own value, a word WORD and its number, or UNKNOWN.
    private static final int END = -1;
    private static final int NUMBER = 256;
    private static final int UNKNOWN = 257;
    private static final int WORD = 258;

    // A CLAUSE's five numbers: what it begins with, where its SUMS and its TEST stand, how often.
    private static final int HEAD = 5;
    private static final int VERB = 0;
    private static final int FIRST = 1;
    private static final int SECOND = 2;
    private static final int OFTEN = 3;
    private static final int TEST = 4;

    // Steps of a read TEXT, two numbers each; signs between two values are their own bytes.
    private static final int STOP = 0;
    private static final int PUSH = 1;
    private static final int ASK = 2;
    private static final int NOT = 3;
    private static final int OR = 4;
    private static final int AND = 5;
    private static final int BEYOND = 1_000_000_000;
    private static final int BROKEN = -2_000_000_000;

    private final Isle isle = new Isle();
    private final Isle firstImage = new Isle();
    private final Isle secondImage = new Isle();
    private final boolean[] kept = new boolean[IMAGES];
    private final Isle summer = new Isle();
    private boolean summered = false;
    private final Tape tape = new Tape();
    private final Reader reader = new Reader();
    private final Judge judge = new Judge();
    private final Trail trail = new Trail();
    private final Paper paper = new Paper();
    private int foamed = 0;
    private int stoppedAt = NONE;
    private int ordered = 0;
    private int lastCaught = NONE;
    private int refusedBy = 0;
    private final int[] refusals = new int[5];

    public DoorFleet() {
    }

    // ---- houses, doors, the sea, foes, terms ----

    public int house(int size) {
        if (size < 1 || size > 9) return refuse(BAD_NUMBER);
        if (isle.houses >= HOUSES) return refuse(NO_ROOM);
        isle.size[isle.houses] = size;
        isle.houses++;
        return granted(isle.houses - 1);
    }

    public int door(int wide, int wood, int home, int knocks) {
        if (wide < 1 || wide > 9 || wood < 0 || wood > 3 || !isKnocks(knocks)) return refuse(BAD_NUMBER);
        if (!isle.isHouse(home)) return refuse(NOT_THERE);
        if (isle.doorIn(home) != NONE) return refuse(NOT_NOW);
        if (isle.doors >= DOORS) return refuse(NO_ROOM);
        int door = isle.doors;
        isle.wide[door] = wide;
        isle.wood[door] = wood;
        isle.home[door] = home;
        isle.knocks[door] = knocks;
        isle.hangs[door] = home;
        isle.cell[door] = NONE;
        isle.caught[door] = 0;
        isle.doors++;
        trail.count = 0;
        return granted(door);
    }

    public int of(int door, int what) {
        if (!isle.isDoor(door)) return NONE;
        switch (what) {
            case 0: return isle.wide[door];
            case 1: return isle.wood[door];
            case 2: return isle.home[door];
            case 3: return isle.knocks[door];
            case 4: return isle.hangs[door];
            case 5: return isle.cell[door];
            case 6: return isle.caught[door];
            case 7: return isle.isLost(door) ? 1 : 0;
            case 8: return judge.isBarred(isle, door) ? 1 : 0;
            default: return NONE;
        }
    }

    public int frame(int house, int what) {
        if (!isle.isHouse(house)) return NONE;
        if (what == 0) return isle.size[house];
        if (what == 1) return isle.doorIn(house);
        if (what < 2 || !isle.isDoor(what - 2)) return NONE;
        return judge.isFitting(isle, what - 2, house) ? 1 : 0;
    }

    public int put(int cell, int what, int value) {
        if (!isCell(cell) || value < 0) return refuse(BAD_NUMBER);
        if (what == 0 && value <= MOST_FISH) {
            int was = isle.fish[cell];
            isle.fish[cell] = value;
            trail.count = 0;
            return granted(was);
        }
        if (what == 1 && value <= 4) {
            int was = isle.drift[cell];
            isle.drift[cell] = value;
            trail.count = 0;
            return granted(was);
        }
        return refuse(BAD_NUMBER);
    }

    public int at(int cell, int what) {
        if (!isCell(cell)) return NONE;
        if (what == 0) return isle.fish[cell];
        if (what == 1) return isle.drift[cell];
        if (what != 2) return NONE;
        int there = 0;
        for (int d = 0; d < isle.doors; d++) if (isle.cell[d] == cell) there++;
        return there;
    }

    public int asks(int door, int cell, int what) {
        if (!isle.isDoor(door) || !isCell(cell)) return NONE;
        if (what == 0) return judge.catchOf(isle, door, cell, isle.fish[cell]);
        if (what == 1) return judge.slamOf(isle, door, cell);
        return NONE;
    }

    public int foe(int strong) {
        if (strong < 1 || strong > 9) return refuse(BAD_NUMBER);
        if (isle.foes >= FOES) return refuse(NO_ROOM);
        isle.strong[isle.foes] = strong;
        isle.foes++;
        return granted(isle.foes - 1);
    }

    public int peace() {
        int were = isle.foes;
        isle.foes = 0;
        return were;
    }

    public int terms(int what, int value) {
        if (what == 0 && value >= 0 && value <= LAST_DAY) {
            int was = isle.day;
            isle.day = value;
            trail.count = 0;
            return granted(was);
        }
        if (what == 1 && value >= 0 && value <= 9) {
            int was = isle.mood;
            isle.mood = value;
            trail.count = 0;
            return granted(was);
        }
        return refuse(BAD_NUMBER);
    }

    // ---- the tape and what is read from it ----

    public int feed(int a, int b, int c, int d, int e) {
        if (tape.length + 20 > TAPE) return NONE;
        tape.append(a);
        tape.append(b);
        tape.append(c);
        tape.append(d);
        tape.append(e);
        return tape.length;
    }

    public int end(int n) {
        if (n < 0 || n > tape.length) return NONE;
        tape.length = n;
        return n;
    }

    public int row() {
        int bytes = tape.length;
        tape.length = 0;
        if (bytes == 0) return refuse(BAD_TEXT);
        int told = 0;
        for (int i = 0; i + 1 < bytes; i += 2) {
            int cell = i / 2;
            int fish = tape.bytes[i];
            int drift = tape.bytes[i + 1];
            if (cell < CELLS && fish <= MOST_FISH && drift <= 4) {
                isle.fish[cell] = fish;
                isle.drift[cell] = drift;
                told++;
            }
        }
        foamed = (bytes + 1) / 2 - told;
        trail.count = 0;
        return granted(told);
    }

    public int foam() {
        return foamed;
    }

    public int law() {
        if (isle.laws >= LAWS) {
            tape.length = 0;
            return refuse(NO_ROOM);
        }
        if (!reader.reads(tape, false)) return refuse(BAD_TEXT);
        isle.law[isle.laws] = reader.draft.copied();
        isle.laws++;
        return granted(isle.laws - 1);
    }

    public int orders() {
        stoppedAt = NONE;
        if (!reader.reads(tape, true)) return refuse(BAD_TEXT);
        Text text = reader.draft;
        int ahead = trail.count;
        ordered = 0;
        lastCaught = NONE;
        for (int c = 0; c < text.clauses; c++) {
            int often = text.told(c, OFTEN);
            for (int n = 0; n < often; n++) {
                if (!isObeyed(text, c)) {
                    trail.backTo(ahead, isle);
                    stoppedAt = c;
                    return refuse(NOT_NOW);
                }
            }
        }
        trail.trim();
        return granted(ordered);
    }

    public int fault() {
        return reader.fault;
    }

    public int stopped() {
        return stoppedAt;
    }

    public int force(int law) {
        if (law < NONE || law >= isle.laws) return refuse(NOT_THERE);
        int was = isle.force;
        isle.force = law;
        return granted(was);
    }

    // ---- deeds ----

    public int launch(int door) {
        return deed(LAUNCH, door, NONE);
    }

    public int sail(int door, int by) {
        return deed(SAIL, door, by);
    }

    public int fish(int door) {
        return deed(FISH, door, NONE);
    }

    public int hang(int door, int house) {
        return deed(HANG, door, house);
    }

    public int tide() {
        return deed(TIDE, NONE, NONE);
    }

    public int undo() {
        if (trail.count == 0) return refuse(NOT_NOW);
        return granted(trail.backTo(trail.count - 1, isle));
    }

    // ---- what is reckoned on paper ----

    public int fleet(int fish, int what) {
        if (fish < 0 || fish > 9999 || what < 0 || what > 1) return NONE;
        int chosen = paper.fewestFor(isle, judge, fish);
        if (chosen == NONE || what == 1) return chosen;
        return Integer.bitCount(chosen);
    }

    public int hanging(int what) {
        boolean counted = what == 0 || what == 1;
        if (!counted && !isNotLost(what, 2)) return NONE;
        int score = paper.hangAll(isle, judge);
        if (what == 0) return score / Paper.HANGS;
        if (what == 1) return score % Paper.HANGS;
        return paper.chosen[what - 2];
    }

    public int right() {
        return paper.fewestSwaps(isle);
    }

    public int heard(int knocks, int k) {
        if (!isKnocks(knocks) || k < 0 || k > 6) return NONE;
        int doors = 0;
        for (int d = 0; d < isle.doors; d++) {
            if (Integer.bitCount(isle.knocks[d] ^ knocks) <= k) doors |= 1 << d;
        }
        return doors;
    }

    public int knock(int what) {
        if (what < 0 || what > 1) return NONE;
        int best = 0;
        int unlike = isle.leastUnlike(0);
        for (int knocks = 1; knocks < 64; knocks++) {
            int least = isle.leastUnlike(knocks);
            if (least > unlike) {
                best = knocks;
                unlike = least;
            }
        }
        return what == 0 ? best : unlike;
    }

    public int wreck(int cell, int n) {
        if (!isCell(cell) || n < 0 || n > 99) return NONE;
        int cells = 0;
        for (int from = 0; from < CELLS; from++) {
            if (isle.driftsTo(from, n) == cell) cells |= 1 << from;
        }
        return cells;
    }

    public int search(int cells, int i) {
        if (cells < 0 || cells >= 1 << CELLS) return NONE;
        int told = Integer.bitCount(cells);
        if (told > SEARCHED || i < NONE || i >= told) return NONE;
        int steps = paper.shortestWay(cells);
        return i == NONE ? steps : paper.chosen[i];
    }

    public long afloat(int door, int n) {
        if (!isle.isDoor(door) || isle.cell[door] == NONE || n < 0 || n > 60) return NONE;
        long chance = CERTAIN;
        int cell = isle.cell[door];
        for (int t = 0; t < n; t++) {
            chance = chance * (10 - judge.slamOf(isle, door, cell)) / 10;
            cell = isle.driftsTo(cell, 1);
            if (cell == NONE) return 0;
        }
        return chance;
    }

    public int guards(int what) {
        if (what < 0 || what > 1) return NONE;
        int open = 0;
        for (int h = 0; h < isle.houses; h++) if (isle.doorIn(h) == NONE) open |= 1 << h;
        int best = (1 << isle.houses) - 1;
        for (int g = best - 1; g >= 0; g--) {
            int watched = g | g << 1 | g >> 1;
            if ((open & ~watched) == 0 && Integer.bitCount(g) <= Integer.bitCount(best)) best = g;
        }
        return what == 0 ? Integer.bitCount(best) : best;
    }

    public int battle(int what) {
        if (what != 0 && !isNotLost(what, 1)) return NONE;
        int wins = paper.fight(isle);
        return what == 0 ? wins : paper.chosen[what - 1];
    }

    public int share(int whale, int door) {
        if (whale < 0 || whale > 99_999 || !isle.isDoor(door) || isle.cell[door] == NONE) return NONE;
        return Paper.shareOf(isle, whale, door);
    }

    // ---- summers and images ----

    public int summers(int seed, int n) {
        if (seed < 0 || seed > 1_000_000 || n < 1 || n > 60) return refuse(BAD_NUMBER);
        summer.copyFrom(isle);
        summered = true;
        long s = seed;
        for (int t = 0; t < n && summer.day < LAST_DAY; t++) {
            for (int d = 0; d < summer.doors; d++) {
                int cell = summer.cell[d];
                if (cell == NONE) continue;
                summer.take(d, judge.catchOf(summer, d, cell, summer.fish[cell]));
                s = (s * 1103 + 12345) % 1_000_003;
                if (s % 10 < judge.slamOf(summer, d, cell)) summer.cell[d] = NONE;
            }
            summer.flow();
        }
        return granted(summer.lost() - isle.lost());
    }

    public int drawn(int k, int what) {
        if (!summered) return NONE;
        if (what == 0 && summer.isDoor(k)) return summer.cell[k];
        if (what == 1 && summer.isDoor(k)) return summer.caught[k];
        if (what == 2 && isCell(k)) return summer.fish[k];
        return NONE;
    }

    public int image(int k) {
        if (k < 0 || k >= IMAGES) return refuse(BAD_NUMBER);
        imageOf(k).copyFrom(isle);
        kept[k] = true;
        return granted(0);
    }

    public int back(int k) {
        if (k < 0 || k >= IMAGES) return refuse(BAD_NUMBER);
        if (!kept[k]) return refuse(NOT_THERE);
        isle.copyFrom(imageOf(k));
        trail.count = 0;
        return granted(0);
    }

    public int count(int what) {
        if (what >= 8 && what <= 12) return refusals[what - 8];
        switch (what) {
            case 0: return isle.houses;
            case 1: return isle.doors;
            case 2: return isle.foes;
            case 3: return isle.open();
            case 4: return isle.lost();
            case 5: return isle.laws;
            case 6: return trail.count;
            case 7: return tape.length;
            case 13: return isle.force;
            case 14: return isle.day;
            case 15: return isle.mood;
            default: return NONE;
        }
    }

    public int status() {
        return refusedBy;
    }

    // ---- what the calls share ----

    private int granted(int answer) {
        refusedBy = 0;
        return answer;
    }

    private int refuse(int by) {
        refusedBy = by;
        if (by == BAD_NUMBER) refusals[0]++;
        else if (by == NOT_THERE) refusals[1]++;
        else if (by == NOT_NOW) refusals[2]++;
        else if (by == NO_ROOM) refusals[3]++;
        else if (by == BAD_TEXT) refusals[4]++;
        return by;
    }

    private Isle imageOf(int k) {
        return k == 0 ? firstImage : secondImage;
    }

    private static boolean isCell(int cell) {
        return cell >= 0 && cell < CELLS;
    }

    private static boolean isKnocks(int knocks) {
        return knocks >= 0 && knocks < 64;
    }

    /** Whether what tells, from first on, a DOOR that is not LOST. */
    private boolean isNotLost(int what, int first) {
        return what >= first && isle.isDoor(what - first) && !isle.isLost(what - first);
    }

    /** A launching, a sailing, .. by a call of its own. */
    private int deed(int kind, int door, int to) {
        int by = refusal(kind, door, to);
        if (by != 0) return refuse(by);
        int answer = act(kind, door, to);
        trail.trim();
        return granted(answer);
    }

    /** Does what is not REFUSED, and keeps what stood ahead of it. */
    private int act(int kind, int door, int to) {
        trail.keep(kind, isle);
        switch (kind) {
            case LAUNCH:
                isle.hangs[door] = NONE;
                isle.cell[door] = HARBOUR;
                return 0;
            case SAIL:
                isle.cell[door] = Isle.beside(isle.cell[door], to);
                return isle.cell[door];
            case FISH:
                int cell = isle.cell[door];
                int caught = judge.catchOf(isle, door, cell, isle.fish[cell]);
                isle.take(door, caught);
                return caught;
            case HANG:
                int brought = isle.caught[door];
                isle.hangs[door] = to;
                isle.cell[door] = NONE;
                isle.caught[door] = 0;
                return brought;
            default:
                return isle.flow();
        }
    }

    /** What it would be REFUSED by; 0: it can be. */
    private int refusal(int kind, int door, int to) {
        if (kind == TIDE) return isle.day < LAST_DAY ? 0 : NOT_NOW;
        if (kind == SAIL && (to < 1 || to > 4)) return BAD_NUMBER;
        if (!isle.isDoor(door)) return NOT_THERE;
        if (kind == HANG && !isle.isHouse(to)) return NOT_THERE;
        int cell = isle.cell[door];
        boolean can;
        if (kind == LAUNCH) can = isle.hangs[door] != NONE && !judge.isBarred(isle, door);
        else if (kind == SAIL) can = cell != NONE && Isle.beside(cell, to) != NONE;
        else if (kind == FISH) can = cell != NONE;
        else can = cell == HARBOUR && isle.doorIn(to) == NONE && judge.isFitting(isle, door, to);
        return can ? 0 : NOT_NOW;
    }

    /** Runs a CLAUSE of ORDERS once, or passes it over by its "if"; false: it can't be. */
    private boolean isObeyed(Text text, int clause) {
        judge.learn(isle, ordered, lastCaught);
        int test = text.told(clause, TEST);
        if (test != NONE && judge.value(text, test) != 1) return true;
        int first = text.told(clause, FIRST);
        int second = text.told(clause, SECOND);
        int door = first == NONE ? NONE : judge.value(text, first);
        if (door == BROKEN) return false;
        int to = second == NONE ? NONE : judge.value(text, second);
        if (to == BROKEN) return false;
        int kind = text.told(clause, VERB);
        if (refusal(kind, door, to) != 0) return false;
        int answer = act(kind, door, to);
        ordered++;
        if (kind == FISH) lastCaught = answer;
        return true;
    }

    /** All that an IMAGE keeps. */
    private static final class Isle {
        private int houses = 0;
        private final int[] size = new int[HOUSES];
        private int doors = 0;
        private final int[] wide = new int[DOORS];
        private final int[] wood = new int[DOORS];
        private final int[] home = new int[DOORS];
        private final int[] knocks = new int[DOORS];
        // A DOOR that is neither in a HOUSE nor in a CELL is LOST.
        private final int[] hangs = new int[DOORS];
        private final int[] cell = new int[DOORS];
        private final int[] caught = new int[DOORS];
        private final int[] fish = new int[CELLS];
        private final int[] drift = new int[CELLS];
        private int foes = 0;
        private final int[] strong = new int[FOES];
        private int day = 0;
        private int mood = 0;
        private int laws = 0;
        private final Text[] law = new Text[LAWS];
        private int force = NONE;

        private Isle() {
            Arrays.fill(fish, 10);
        }

        private void copyFrom(Isle other) {
            houses = other.houses;
            doors = other.doors;
            foes = other.foes;
            day = other.day;
            mood = other.mood;
            laws = other.laws;
            force = other.force;
            System.arraycopy(other.size, 0, size, 0, HOUSES);
            System.arraycopy(other.wide, 0, wide, 0, DOORS);
            System.arraycopy(other.wood, 0, wood, 0, DOORS);
            System.arraycopy(other.home, 0, home, 0, DOORS);
            System.arraycopy(other.knocks, 0, knocks, 0, DOORS);
            System.arraycopy(other.hangs, 0, hangs, 0, DOORS);
            System.arraycopy(other.cell, 0, cell, 0, DOORS);
            System.arraycopy(other.caught, 0, caught, 0, DOORS);
            System.arraycopy(other.fish, 0, fish, 0, CELLS);
            System.arraycopy(other.drift, 0, drift, 0, CELLS);
            System.arraycopy(other.strong, 0, strong, 0, FOES);
            for (int i = 0; i < LAWS; i++) law[i] = other.law[i];
        }

        private boolean isHouse(int house) {
            return house >= 0 && house < houses;
        }

        private boolean isDoor(int door) {
            return door >= 0 && door < doors;
        }

        private boolean isLost(int door) {
            return hangs[door] == NONE && cell[door] == NONE;
        }

        private int doorIn(int house) {
            for (int d = 0; d < doors; d++) if (hangs[d] == house) return d;
            return NONE;
        }

        private int open() {
            int open = 0;
            for (int h = 0; h < houses; h++) if (doorIn(h) == NONE) open++;
            return open;
        }

        private int lost() {
            int lost = 0;
            for (int d = 0; d < doors; d++) if (isLost(d)) lost++;
            return lost;
        }

        private Text lawInForce() {
            return force >= 0 && force < laws ? law[force] : null;
        }

        /** The CELL beside a CELL, as DRIFT tells (NONE: over the edge). */
        private static int beside(int cell, int by) {
            int x = cell % SIDE;
            int y = cell / SIDE;
            if (by == 1) y--;
            else if (by == 2) x++;
            else if (by == 3) y++;
            else if (by == 4) x--;
            return x < 0 || y < 0 || x >= SIDE || y >= SIDE ? NONE : y * SIDE + x;
        }

        private int driftsTo(int from, int tides) {
            int at = from;
            for (int t = 0; t < tides && isCell(at); t++) at = beside(at, drift[at]);
            return at;
        }

        private void take(int door, int more) {
            int at = cell[door];
            if (!isCell(at)) return;
            caught[door] = Math.min(caught[door] + more, MOST_CATCH);
            fish[at] -= more;
        }

        /** A TIDE: how many DOORS went over the edge. */
        private int flow() {
            int gone = 0;
            for (int d = 0; d < doors; d++) {
                if (cell[d] == NONE) continue;
                cell[d] = driftsTo(cell[d], 1);
                if (cell[d] == NONE) gone++;
            }
            for (int c = 0; c < CELLS; c++) fish[c] = Math.min(fish[c] + 1, MOST_FISH);
            day++;
            return gone;
        }

        /** The least number of bits unlike to KNOCKS of all DOORS (6 without DOORS). */
        private int leastUnlike(int told) {
            int least = 6;
            for (int d = 0; d < doors; d++) least = Math.min(least, Integer.bitCount(knocks[d] ^ told));
            return least;
        }
    }

    /** What can be undone: what stood ahead of each deed, the latest last. */
    private static final class Trail {
        private static final int ROW = 2 + 3 * DOORS + CELLS;
        // ORDERS may have to be undone whole, so all of theirs is kept until they are done.
        private static final int ROWS = UNDONE + CLAUSES * TIMES;

        private final int[] rows = new int[ROWS * ROW];
        private int count = 0;

        private void keep(int kind, Isle isle) {
            if (count >= ROWS) trim();
            int at = count * ROW;
            rows[at] = kind;
            rows[at + 1] = isle.day;
            System.arraycopy(isle.hangs, 0, rows, at + 2, DOORS);
            System.arraycopy(isle.cell, 0, rows, at + 2 + DOORS, DOORS);
            System.arraycopy(isle.caught, 0, rows, at + 2 + 2 * DOORS, DOORS);
            System.arraycopy(isle.fish, 0, rows, at + 2 + 3 * DOORS, CELLS);
            count++;
        }

        /** All is as it stood ahead of a kept deed, if there is such a one: which kind it was. */
        private int backTo(int index, Isle isle) {
            if (index < 0 || index >= count) return NONE;
            int at = index * ROW;
            isle.day = rows[at + 1];
            System.arraycopy(rows, at + 2, isle.hangs, 0, DOORS);
            System.arraycopy(rows, at + 2 + DOORS, isle.cell, 0, DOORS);
            System.arraycopy(rows, at + 2 + 2 * DOORS, isle.caught, 0, DOORS);
            System.arraycopy(rows, at + 2 + 3 * DOORS, isle.fish, 0, CELLS);
            count = index;
            return rows[at];
        }

        private void trim() {
            int over = count - UNDONE;
            if (over <= 0) return;
            System.arraycopy(rows, over * ROW, rows, 0, UNDONE * ROW);
            count = UNDONE;
        }
    }

    private static final class Tape {
        private final int[] bytes = new int[TAPE];
        private int length = 0;

        private void append(int four) {
            for (int shift = 24; shift >= 0 && length < TAPE; shift -= 8) {
                bytes[length] = four >>> shift & 255;
                length++;
            }
        }
    }

    /** A TEXT that was read: for each CLAUSE its five numbers, and the steps of its SUMS and TESTS. */
    private static final class Text {
        private int clauses = 0;
        private final int[] heads;
        private int length = 0;
        private final int[] steps;

        private Text(int[] heads, int[] steps) {
            this.heads = heads;
            this.steps = steps;
        }

        private Text copied() {
            Text copy = new Text(Arrays.copyOf(heads, clauses * HEAD), Arrays.copyOf(steps, length));
            copy.clauses = clauses;
            copy.length = length;
            return copy;
        }

        private int told(int clause, int what) {
            int at = clause * HEAD + what;
            return at >= 0 && at < heads.length ? heads[at] : NONE;
        }

        private void tell(int what, int value) {
            int at = (clauses - 1) * HEAD + what;
            if (at >= 0 && at < heads.length) heads[at] = value;
        }

        private void begin(int verb) {
            clauses++;
            tell(VERB, verb);
            tell(FIRST, NONE);
            tell(SECOND, NONE);
            tell(OFTEN, 1);
            tell(TEST, NONE);
        }

        private void add(int step, int value) {
            if (length + 1 >= steps.length) return;
            steps[length] = step;
            steps[length + 1] = value;
            length += 2;
        }

        /** The jump kept at this place leads to the next step. */
        private void land(int jump) {
            if (jump >= 0 && jump < steps.length) steps[jump] = length;
        }

        private boolean has(int verb) {
            for (int c = 0; c < clauses; c++) if (told(c, VERB) == verb) return true;
            return false;
        }
    }

    /** Reads both languages. No function goes past a TOKEN that can't go on: it answers false there. */
    private static final class Reader {
        private final int[] codes = new int[TAPE + 1];
        private final int[] places = new int[TAPE + 1];
        private final int[] numbers = new int[TAPE + 1];
        private int tokens = 0;
        private int at = 0;
        private int next = END;
        private int parts = 0;
        private boolean ordering = false;
        private int fault = NONE;
        // A TOKEN adds a step at most, each SUM and TEST one behind it.
        private final Text draft = new Text(new int[CLAUSES * HEAD], new int[2 * (TAPE + 3 * CLAUSES)]);

        /** Whether the TAPE is a TEXT, which is the draft then; the TAPE is empty then. */
        private boolean reads(Tape tape, boolean asOrders) {
            split(tape);
            tape.length = 0;
            at = 0;
            next = codes[0];
            parts = 0;
            ordering = asOrders;
            draft.clauses = 0;
            draft.length = 0;
            boolean can = clause();
            for (int n = 1; n <= CLAUSES && can && next == ';'; n++) {
                advance();
                can = n < CLAUSES && clause();
            }
            can = can && next == END;
            fault = can ? NONE : places[at];
            return can;
        }

        private void split(Tape tape) {
            tokens = 0;
            int i = 0;
            for (int n = 0; n < TAPE && i < tape.length; n++) {
                int end = endOf(tape, i);
                int sign = tape.bytes[i];
                if (isLetter(sign)) note(wordIn(tape, i, end), i, 0);
                else if (isDigit(sign)) note(NUMBER, i, numberIn(tape, i, end));
                else if (sign != ' ') note(sign, i, 0);
                i = end;
            }
            note(END, tape.length, 0);
        }

        private void note(int code, int place, int number) {
            if (tokens > TAPE) return;
            codes[tokens] = code;
            places[tokens] = place;
            numbers[tokens] = number;
            tokens++;
        }

        private static boolean isLetter(int sign) {
            return sign >= 'a' && sign <= 'z';
        }

        private static boolean isDigit(int sign) {
            return sign >= '0' && sign <= '9';
        }

        private static int endOf(Tape tape, int from) {
            int first = tape.bytes[from];
            int end = from + 1;
            if (isLetter(first)) while (end < tape.length && isLetter(tape.bytes[end])) end++;
            else if (isDigit(first)) while (end < tape.length && isDigit(tape.bytes[end])) end++;
            return end;
        }

        /** No limit of the languages is as high as a million: beyond, they are all alike. */
        private static int numberIn(Tape tape, int from, int end) {
            int number = 0;
            for (int i = from; i < end; i++) number = Math.min(number * 10 + tape.bytes[i] - '0', 1_000_000);
            return number;
        }

        private static int wordIn(Tape tape, int from, int end) {
            int word = 0;
            int like = 0;
            boolean same = true;
            for (int i = 0; i < WORDS.length(); i++) {
                char sign = WORDS.charAt(i);
                if (sign == ' ') {
                    if (same && from + like == end) return WORD + word;
                    word++;
                    like = 0;
                    same = true;
                } else {
                    same = same && from + like < end && tape.bytes[from + like] == sign;
                    like++;
                }
            }
            return UNKNOWN;
        }

        private void advance() {
            if (at + 1 >= tokens) return;
            at++;
            next = codes[at];
        }

        /** The NUMBER that stands here; NONE: none from least to most does. */
        private int numberFrom(int least, int most) {
            return next == NUMBER && numbers[at] >= least && numbers[at] <= most ? numbers[at] : NONE;
        }

        private boolean clause() {
            int verb = ordering ? orderVerb(next - WORD) : lawVerb(next - WORD);
            if (verb == NONE) return false;
            advance();
            draft.begin(verb);
            boolean hasSum = ordering ? verb != TIDE : verb == CATCHES || verb == SLAMS;
            if (hasSum && !sumOf(FIRST)) return false;
            if (ordering && (verb == SAIL || verb == HANG)) {
                if (next - WORD != (verb == SAIL ? WORD_BY : WORD_IN)) return false;
                advance();
                if (!sumOf(SECOND)) return false;
            }
            if (ordering && next - WORD == WORD_TIMES) {
                advance();
                int often = numberFrom(1, TIMES);
                if (often == NONE) return false;
                draft.tell(OFTEN, often);
                advance();
            }
            if (next - WORD != WORD_IF) return true;
            advance();
            draft.tell(TEST, draft.length);
            boolean can = test(0);
            draft.add(STOP, 0);
            return can;
        }

        private static int lawVerb(int word) {
            return word >= WORD_CATCHES && word <= WORD_BARS ? word - WORD_CATCHES : NONE;
        }

        private static int orderVerb(int word) {
            switch (word) {
                case WORD_LAUNCH: return LAUNCH;
                case WORD_SAIL: return SAIL;
                case WORD_FISH: return FISH;
                case WORD_HANG: return HANG;
                case WORD_TIDE: return TIDE;
                default: return NONE;
            }
        }

        private boolean sumOf(int which) {
            draft.tell(which, draft.length);
            boolean can = sum(0);
            draft.add(STOP, 0);
            return can;
        }

        /** An "and" jumps over its PLAIN alone, an "or" over all of its BOTH: up to the next "or" or the end. */
        private boolean test(int depth) {
            boolean can = plain(depth);
            int latestOr = NONE;
            for (int n = 0; n < TAPE && can && (next - WORD == WORD_OR || next - WORD == WORD_AND); n++) {
                boolean isOr = next - WORD == WORD_OR;
                advance();
                if (isOr) draft.land(latestOr);
                int jump = draft.length + 1;
                draft.add(isOr ? OR : AND, 0);
                can = plain(depth);
                if (isOr) latestOr = jump;
                else draft.land(jump);
            }
            draft.land(latestOr);
            return can;
        }

        private boolean plain(int depth) {
            boolean turned = false;
            for (int n = 0; n < TAPE && next - WORD == WORD_NOT; n++) {
                turned = !turned;
                advance();
            }
            if (next == '(') {
                if (depth >= BRACKETS) return false;
                advance();
                if (!test(depth + 1) || next != ')') return false;
                advance();
            } else {
                if (!sum(depth)) return false;
                int sign = next;
                if (sign != '<' && sign != '>' && sign != '=') return false;
                advance();
                if (!sum(depth)) return false;
                draft.add(sign, 0);
            }
            if (turned) draft.add(NOT, 0);
            return true;
        }

        /** A "+" or "-" waits until the TERM behind it is whole. */
        private boolean sum(int depth) {
            boolean can = part(depth);
            int waiting = NONE;
            for (int n = 0; n < TAPE && can; n++) {
                int sign = next;
                boolean adds = sign == '+' || sign == '-';
                boolean multiplies = sign == '*' || sign == '/' || sign == '%';
                if (!adds && !multiplies) break;
                advance();
                if (adds && waiting != NONE) draft.add(waiting, 0);
                if (adds) waiting = sign;
                can = part(depth);
                if (multiplies) draft.add(sign, 0);
            }
            if (waiting != NONE) draft.add(waiting, 0);
            return can;
        }

        private boolean part(int depth) {
            if (next == '[') {
                if (depth >= BRACKETS) return false;
                advance();
                if (!sum(depth + 1) || next != ']') return false;
                advance();
                return true;
            }
            if (parts >= PARTS) return false;
            boolean isNumber = next == NUMBER;
            int value = isNumber ? numberFrom(0, 1000) : ordering ? orderFact(next - WORD) : lawFact(next - WORD);
            if (value == NONE) return false;
            if (!isNumber && value >= FACT_AT) {
                advance();
                int door = numberFrom(0, DOORS - 1);
                if (door == NONE) return false;
                value += door;
            }
            draft.add(isNumber ? PUSH : ASK, value);
            parts++;
            advance();
            return true;
        }

        private static int lawFact(int word) {
            return word >= WORD_DOOR && word <= WORD_MOOD ? word : NONE;
        }

        /** Where the word's value will stand (of those with D: that of DOOR 0). */
        private static int orderFact(int word) {
            switch (word) {
                case WORD_DAY: return WORD_DAY;
                case WORD_DONE: return WORD_DONE;
                case WORD_LATEST: return WORD_LATEST;
                case WORD_OPEN: return WORD_OPEN;
                case WORD_AT: return FACT_AT;
                case WORD_HOUSE: return FACT_HOUSE;
                case WORD_CATCH: return FACT_CATCH;
                default: return NONE;
            }
        }
    }

    /** Asks SUMS and TESTS, and the LAW in FORCE. */
    private static final class Judge {
        private final int[] facts = new int[FACTS];
        private final int[] stack = new int[2 * PARTS];

        /** What the words of ORDERS tell. */
        private void learn(Isle isle, int done, int latest) {
            facts[WORD_DAY] = isle.day;
            facts[WORD_DONE] = done;
            facts[WORD_LATEST] = latest;
            facts[WORD_OPEN] = isle.open();
            for (int d = 0; d < DOORS; d++) {
                boolean there = isle.isDoor(d);
                facts[FACT_AT + d] = there ? isle.cell[d] : NONE;
                facts[FACT_HOUSE + d] = there ? isle.hangs[d] : NONE;
                facts[FACT_CATCH + d] = there ? isle.caught[d] : 0;
            }
        }

        /** What the words of LAWS tell of a DOOR with a HOUSE or a CELL (NONE: without). */
        private void learnOf(Isle isle, int door, int house, int cell, int fish) {
            facts[WORD_DOOR] = door;
            facts[WORD_WIDE] = isle.wide[door];
            facts[WORD_WOOD] = isle.wood[door];
            facts[WORD_HOME] = isle.home[door];
            facts[WORD_HOUSE] = house;
            facts[WORD_SIZE] = isle.isHouse(house) ? isle.size[house] : NONE;
            facts[WORD_CELL] = cell;
            facts[WORD_FISH] = fish;
            facts[WORD_CATCH] = isle.caught[door];
            facts[WORD_DAY] = isle.day;
            facts[WORD_MOOD] = isle.mood;
        }

        private int catchOf(Isle isle, int door, int cell, int fish) {
            learnOf(isle, door, NONE, cell, fish);
            int told = lastTold(isle.lawInForce(), CATCHES, isle.wide[door] * 3);
            return Math.min(Math.max(0, Math.min(told, 99)), fish);
        }

        private int slamOf(Isle isle, int door, int cell) {
            learnOf(isle, door, NONE, cell, isle.fish[cell]);
            return Math.max(0, Math.min(lastTold(isle.lawInForce(), SLAMS, 1), 10));
        }

        private boolean isFitting(Isle isle, int door, int house) {
            Text law = isle.lawInForce();
            if (law == null || !law.has(FITS)) return Math.abs(isle.wide[door] - isle.size[house]) <= 1;
            learnOf(isle, door, house, NONE, NONE);
            return lastTold(law, FITS, 0) == 1;
        }

        private boolean isBarred(Isle isle, int door) {
            int house = isle.hangs[door];
            if (house == NONE) return false;
            learnOf(isle, door, house, NONE, NONE);
            return lastTold(isle.lawInForce(), BARS, 0) == 1;
        }

        /** What the last CLAUSE of this kind that HOLDS tells (1, if it has no SUM). */
        private int lastTold(Text law, int verb, int without) {
            if (law == null) return without;
            for (int c = law.clauses - 1; c >= 0; c--) {
                if (law.told(c, VERB) != verb) continue;
                int test = law.told(c, TEST);
                if (test != NONE && value(law, test) != 1) continue;
                int sum = law.told(c, FIRST);
                int told = sum == NONE ? 1 : value(law, sum);
                if (told != BROKEN) return told;
            }
            return without;
        }

        /** A SUM's value, or whether a TEST is so (1, 0); BROKEN. */
        private int value(Text text, int from) {
            int top = -1;
            int at = from;
            for (int n = 0; n < text.length && at >= 0 && at + 1 < text.length; n++) {
                int step = text.steps[at];
                int told = text.steps[at + 1];
                at += 2;
                if (step == PUSH || step == ASK) {
                    if (top + 1 >= stack.length || step == ASK && (told < 0 || told >= FACTS)) return BROKEN;
                    top++;
                    stack[top] = step == PUSH ? told : facts[told];
                } else if (top < 0) {
                    return BROKEN;
                } else if (step == STOP) {
                    return stack[top];
                } else if (step == NOT) {
                    stack[top] = 1 - stack[top];
                } else if (step == OR || step == AND) {
                    if (stack[top] == (step == OR ? 1 : 0)) at = told;
                    else top--;
                } else {
                    if (top < 1) return BROKEN;
                    top--;
                    stack[top] = joined(step, stack[top], stack[top + 1]);
                    if (stack[top] == BROKEN) return BROKEN;
                }
            }
            return BROKEN;
        }

        private static int joined(int sign, long a, long b) {
            long c;
            switch (sign) {
                case '+': c = a + b; break;
                case '-': c = a - b; break;
                case '*': c = a * b; break;
                case '/': c = b == 0 ? BROKEN : a / b; break;
                case '%': c = b == 0 ? BROKEN : a % b; break;
                case '<': c = a < b ? 1 : 0; break;
                case '>': c = a > b ? 1 : 0; break;
                case '=': c = a == b ? 1 : 0; break;
                default: c = BROKEN; break;
            }
            return c < -BEYOND || c > BEYOND ? BROKEN : (int) c;
        }
    }

    /** Reckons on paper, on rows that are made once. */
    private static final class Paper {
        // One that HANGS weighs more than all HOMES together.
        private static final int HANGS = 16;
        private static final int SETS = 1 << HOUSES;
        private static final int WAYS = 1 << SEARCHED;
        // More steps than any row of CELLS needs.
        private static final int FARTHEST = SEARCHED * 2 * SIDE;

        // For each DOOR and each HOUSE or FOE what the pair is worth; NONE: it can't be.
        private final int[] worth = new int[DOORS * HOUSES];
        private final int[] best = new int[(DOORS + 1) * SETS];
        // The fewest steps from a CELL (the HARBOUR last) through a set of CELLS; through none always 0.
        private final int[] way = new int[(SEARCHED + 1) * WAYS];
        private final int[] told = new int[SEARCHED];
        private final int[] catches = new int[DOORS];
        private final int[] chosen = new int[DOORS];

        /** The fewest DOORS for a catch, the lowest as bits; NONE: not by all. */
        private int fewestFor(Isle isle, Judge judge, int fish) {
            int ready = 0;
            for (int d = 0; d < isle.doors; d++) {
                if (isle.hangs[d] == NONE || judge.isBarred(isle, d)) continue;
                ready |= 1 << d;
                catches[d] = judge.catchOf(isle, d, HARBOUR, MOST_FISH);
            }
            int fewest = NONE;
            for (int set = 0; set < SETS; set++) {
                if ((set & ~ready) != 0) continue;
                if (fewest != NONE && Integer.bitCount(set) >= Integer.bitCount(fewest)) continue;
                int sum = 0;
                for (int d = 0; d < DOORS; d++) if ((set >> d & 1) == 1) sum += catches[d];
                if (sum >= fish) fewest = set;
            }
            return fewest;
        }

        /** How many HANG times HANGS, and how many of them in their HOMES; chosen: where. */
        private int hangAll(Isle isle, Judge judge) {
            for (int d = 0; d < isle.doors; d++) {
                for (int h = 0; h < isle.houses; h++) {
                    boolean can = !isle.isLost(d) && judge.isFitting(isle, d, h);
                    worth[d * HOUSES + h] = !can ? NONE : isle.home[d] == h ? HANGS + 1 : HANGS;
                }
            }
            return pair(isle.doors, isle.houses);
        }

        /** How many win; chosen: against which FOE. One that can't win may stand against one, too. */
        private int fight(Isle isle) {
            for (int d = 0; d < isle.doors; d++) {
                for (int f = 0; f < isle.foes; f++) {
                    worth[d * FOES + f] = isle.isLost(d) ? NONE : isle.wide[d] > isle.strong[f] ? 1 : 0;
                }
            }
            return pair(isle.doors, isle.foes);
        }

        /** The most that pairs are worth together; chosen: the first such row (UNPAIRED last). */
        private int pair(int doors, int others) {
            int sets = 1 << others;
            for (int set = 0; set < sets; set++) best[doors * SETS + set] = 0;
            for (int d = doors - 1; d >= 0; d--) {
                for (int set = 0; set < sets; set++) {
                    // d DOORS ahead of this one can't have taken more.
                    if (Integer.bitCount(set) > d) continue;
                    int most = best[(d + 1) * SETS + set];
                    for (int o = 0; o < others; o++) most = Math.max(most, worthOf(d, o, set));
                    best[d * SETS + set] = most;
                }
            }
            int taken = 0;
            for (int d = 0; d < doors; d++) {
                chosen[d] = UNPAIRED;
                int most = best[d * SETS + taken];
                for (int o = 0; o < others && chosen[d] == UNPAIRED; o++) {
                    if (worthOf(d, o, taken) == most) chosen[d] = o;
                }
                if (chosen[d] != UNPAIRED) taken |= 1 << chosen[d];
            }
            return best[0];
        }

        /** What this pair and all DOORS behind it are worth at best; NONE: it can't be. */
        private int worthOf(int door, int other, int taken) {
            int worthy = worth[door * HOUSES + other];
            if (worthy == NONE || (taken >> other & 1) == 1) return NONE;
            return worthy + best[(door + 1) * SETS + (taken | 1 << other)];
        }

        /** NONE, if two DOORS that HANG have one HOME. */
        private int fewestSwaps(Isle isle) {
            int homes = 0;
            for (int h = 0; h < HOUSES; h++) chosen[h] = NONE;
            for (int d = 0; d < isle.doors; d++) {
                int house = isle.hangs[d];
                if (house == NONE) continue;
                int home = 1 << isle.home[d];
                if ((homes & home) != 0) return NONE;
                homes |= home;
                chosen[house] = d;
            }
            // Each swap brings the DOOR of h to its HOME: none can bring more, but the last of a ring.
            int swaps = 0;
            for (int h = 0; h < HOUSES; h++) {
                for (int n = 0; n < HOUSES && chosen[h] != NONE && isle.home[chosen[h]] != h; n++) {
                    int home = isle.home[chosen[h]];
                    int other = chosen[home];
                    chosen[home] = chosen[h];
                    chosen[h] = other;
                    swaps++;
                }
            }
            return swaps;
        }

        /** The fewest steps from the HARBOUR through these CELLS; chosen: the first such row. */
        private int shortestWay(int cells) {
            int many = 0;
            for (int c = 0; c < CELLS && many < SEARCHED; c++) {
                if ((cells >> c & 1) == 1) {
                    told[many] = c;
                    many++;
                }
            }
            int sets = 1 << many;
            for (int set = 1; set < sets; set++) {
                for (int last = 0; last <= many; last++) {
                    int least = FARTHEST;
                    for (int i = 0; i < many; i++) {
                        if ((set >> i & 1) == 1) least = Math.min(least, stepsBy(last, i, set, many));
                    }
                    way[last * WAYS + set] = least;
                }
            }
            int last = many;
            int left = sets - 1;
            for (int k = 0; k < many; k++) {
                int next = NONE;
                for (int i = 0; i < many && next == NONE; i++) {
                    boolean open = (left >> i & 1) == 1;
                    if (open && stepsBy(last, i, left, many) == way[last * WAYS + left]) next = i;
                }
                if (next == NONE) return NONE;
                chosen[k] = told[next];
                left &= ~(1 << next);
                last = next;
            }
            return way[many * WAYS + sets - 1];
        }

        /** Steps from the last CELL to the i-th, then through those of a set behind it. */
        private int stepsBy(int last, int i, int set, int many) {
            int from = last == many ? HARBOUR : told[last];
            int x = Math.abs(from % SIDE - told[i] % SIDE);
            int y = Math.abs(from / SIDE - told[i] / SIDE);
            return x + y + way[i * WAYS + (set & ~(1 << i))];
        }

        private static int shareOf(Isle isle, int whale, int door) {
            int all = 0;
            for (int d = 0; d < isle.doors; d++) if (isle.cell[d] != NONE) all += isle.wide[d];
            if (all == 0) return NONE;
            int left = whale;
            int ahead = 0;
            int rest = whale * isle.wide[door] % all;
            for (int d = 0; d < isle.doors; d++) {
                if (isle.cell[d] == NONE) continue;
                left -= whale * isle.wide[d] / all;
                int other = whale * isle.wide[d] % all;
                if (other > rest || other == rest && d < door) ahead++;
            }
            return whale * isle.wide[door] / all + (ahead < left ? 1 : 0);
        }
    }
}
