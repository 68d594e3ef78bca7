import java.util.Random;

/** Random runs of 512 calls (from told seeds) against Model: every answer and, now and then, all that can be asked. */
public final class CompareTest {
    private static final String[] LAW_WORDS = {"door", "wide", "wood", "home", "house", "size", "cell", "fish",
        "catch", "day", "mood"};
    private static final String[] ANY = {"catches", "slams", "fits", "bars", "launch", "sail", "fish", "hang", "tide",
        "by", "in", "times", "if", "or", "and", "not", "(", ")", "[", "]", "+", "-", "*", "/", "%", "<", ">", "=",
        ";", "0", "1", "8", "20", "21", "1000", "1001", "day", "wide", "at", "house", "catch", "A", "\u00e9", "x",
        "done", "latest", "open", "door", "007", "99999999999999999999"};

    private final Random r;
    private final DoorFleet x = new DoorFleet();
    private final Model m = new Model();
    private final int run;
    private final int wild;
    private int calls = 0;

    private CompareTest(int run) {
        this.run = run;
        r = new Random(run);
        wild = run % 4 == 0 ? 10 : 100;
    }

    public static void main(String[] args) {
        int runs = args.length > 0 ? Integer.parseInt(args[0]) : 400;
        for (int run = 0; run < runs && Check.wrong() < 20; run++) new CompareTest(run).go();
        Check.finish("CompareTest");
    }

    private void go() {
        start();
        while (calls < 420 && Check.wrong() == 0) {
            once();
            if (r.nextInt(60) == 0) lookAtAll();
        }
        lookAtAll();
    }

    private void due(String call, long got, long want) {
        calls++;
        Check.due("run " + run + " call " + calls + ": " + call, got, want);
    }

    /** From 0 up to below n, now and then another number. */
    private int n(int n) {
        if (r.nextInt(wild) == 0) {
            int[] odd = {-1, -2, n, n + 1, Integer.MIN_VALUE, Integer.MAX_VALUE, r.nextInt()};
            return odd[r.nextInt(odd.length)];
        }
        return r.nextInt(n);
    }

    /** Most often a DOOR that there is. */
    private int someDoor() {
        return m.count(1) > 0 && r.nextInt(8) > 0 ? r.nextInt(m.count(1)) : n(8);
    }

    /** Most often a HOUSE that is OPEN. */
    private int someHouse() {
        for (int h = r.nextInt(3); h < 8 && r.nextInt(8) > 0; h++) if (m.frame(h, 0) > 0 && m.frame(h, 1) < 0) return h;
        return n(8);
    }

    /** Home to the HARBOUR as often as away from it. */
    private int somewhere() {
        return r.nextBoolean() ? 2 + r.nextInt(2) : 1 + 3 * r.nextInt(2);
    }

    private void start() {
        int houses = Math.min(8, r.nextInt(16));
        int like = 1 + r.nextInt(9);
        for (int h = 0; h < houses; h++) house(r.nextInt(3) > 0 ? Math.min(9, like + r.nextInt(2)) : 1 + r.nextInt(9));
        for (int h = 0; h < houses; h++) if (r.nextInt(4) > 0) door(h);
        if (r.nextInt(3) > 0) {
            StringBuilder row = new StringBuilder();
            for (int c = 0; c < 25; c++) row.append((char) r.nextInt(100)).append((char) (r.nextInt(4) * r.nextInt(2)));
            text(row.toString());
            due("row", x.row(), m.row());
        }
        int laws = r.nextInt(4);
        for (int l = 0; l < laws; l++) law();
    }

    private void house(int size) {
        due("house " + size, x.house(size), m.house(size));
    }

    private void door(int home) {
        int size = m.frame(home, 0);
        int wide = size > 0 && r.nextInt(3) > 0 ? Math.max(1, size - 1) : 1 + n(9);
        int wood = n(4);
        int knocks = n(64);
        due("door " + wide + " " + wood + " " + home + " " + knocks, x.door(wide, wood, home, knocks),
            m.door(wide, wood, home, knocks));
    }

    private void text(String text) {
        byte[] bytes = new byte[text.length()];
        for (int i = 0; i < bytes.length; i++) bytes[i] = (byte) text.charAt(i);
        int length = Math.min(400, m.count(7) + bytes.length);
        for (int i = 0; i < bytes.length; i += 20) {
            int[] f = Check.fives(bytes, i);
            due("feed", x.feed(f[0], f[1], f[2], f[3], f[4]), m.feed(f[0], f[1], f[2], f[3], f[4]));
        }
        due("end " + length, x.end(length), m.end(length));
    }

    private void law() {
        String text = broken(clauses(false));
        text(text);
        due("law " + text, x.law(), m.law());
        due("fault", x.fault(), m.fault());
        int law = r.nextInt(Math.max(1, m.count(5)));
        due("force " + law, x.force(law), m.force(law));
    }

    private void orders() {
        String text = broken(clauses(true));
        text(text);
        due("orders " + text, x.orders(), m.orders());
        due("fault", x.fault(), m.fault());
        due("stopped", x.stopped(), m.stopped());
        due("count 6", x.count(6), m.count(6));
    }

    private String broken(String text) {
        if (r.nextInt(5) > 0) return text;
        String[] tokens = text.split(" ");
        tokens[r.nextInt(tokens.length)] = ANY[r.nextInt(ANY.length)];
        String t = String.join(r.nextBoolean() ? " " : "", tokens);
        return r.nextInt(4) > 0 ? t : t.substring(0, r.nextInt(t.length() + 1));
    }

    private String clauses(boolean ordering) {
        StringBuilder text = new StringBuilder();
        int many = 1 + r.nextInt(r.nextInt(10) == 0 ? 13 : 4);
        for (int c = 0; c < many && text.length() < 380; c++) {
            if (c > 0) text.append(" ; ");
            text.append(ordering ? order() : rule());
        }
        return text.length() > 400 ? text.substring(0, 400) : text.toString();
    }

    private String rule() {
        String[] verbs = {"catches " + sum(false, 2), "slams " + sum(false, 2), "fits", "bars"};
        String text = verbs[r.nextInt(4)];
        return text.equals("fits") || text.equals("bars") || r.nextBoolean() ? text + " if " + test(false, 2) : text;
    }

    private String order() {
        String door = r.nextInt(5) > 0 ? "" + (r.nextInt(9) > 0 ? (char) ('0' + (someDoor() & 7)) : 8) : sum(true, 1);
        String by = r.nextInt(5) > 0 ? "" + somewhere() : sum(true, 1);
        String in = r.nextInt(5) > 0 ? "" + (someHouse() & 15) : sum(true, 1);
        String[] verbs = {"launch " + door, "sail " + door + " by " + by, "fish " + door,
            "hang " + door + " in " + in, "tide"};
        String text = verbs[r.nextInt(5)];
        if (r.nextInt(4) == 0) text += " times " + (1 + r.nextInt(20));
        String told = " if at " + door.charAt(0) + " > " + (r.nextInt(3) - 1);
        if (told.contains("-")) told = " if house " + door.charAt(0) + " > 0 - 1";
        boolean apt = Character.isDigit(door.charAt(0)) && door.charAt(0) < '8';
        if (apt && r.nextInt(2) == 0) return text + told;
        return r.nextInt(3) == 0 ? text + " if " + test(true, 2) : text;
    }

    private String sum(boolean ordering, int depth) {
        if (depth == 0 || r.nextInt(3) == 0) return part(ordering);
        String[] signs = {"+", "-", "*", "/", "%"};
        String text = sum(ordering, depth - 1) + " " + signs[r.nextInt(5)] + " " + sum(ordering, depth - 1);
        return r.nextInt(3) == 0 ? "[ " + text + " ]" : text;
    }

    private String part(boolean ordering) {
        if (r.nextInt(2) == 0) return "" + (r.nextInt(5) == 0 ? r.nextInt(1001) : r.nextInt(12));
        if (!ordering) return LAW_WORDS[r.nextInt(11)];
        String[] words = {"day", "done", "latest", "open", "at " + r.nextInt(8), "house " + r.nextInt(8),
            "catch " + r.nextInt(8)};
        return words[r.nextInt(words.length)];
    }

    private String test(boolean ordering, int depth) {
        int kind = depth == 0 ? 0 : r.nextInt(6);
        if (kind == 1) return "not " + test(ordering, depth - 1);
        if (kind == 2) return "( " + test(ordering, depth - 1) + " )";
        if (kind == 3) return test(ordering, depth - 1) + " and " + test(ordering, depth - 1);
        if (kind == 4) return test(ordering, depth - 1) + " or " + test(ordering, depth - 1);
        return sum(ordering, 1) + " " + "<>=".charAt(r.nextInt(3)) + " " + sum(ordering, 1);
    }

    private void once() {
        int kind = r.nextInt(26);
        int a = someDoor();
        int b = n(8);
        int c = n(25);
        int w = n(3);
        int big = n(100);
        int by = r.nextInt(20) == 0 ? n(6) : somewhere();
        int to = someHouse();
        if (kind < 3) due("launch " + a, x.launch(a), m.launch(a));
        else if (kind < 6) due("sail " + a + " " + by, x.sail(a, by), m.sail(a, by));
        else if (kind < 9) due("fish " + a, x.fish(a), m.fish(a));
        else if (kind < 12) due("hang " + a + " " + to, x.hang(a, to), m.hang(a, to));
        else if (kind == 12) due("tide", x.tide(), m.tide());
        else if (kind == 13) due("undo", x.undo(), m.undo());
        else if (kind == 14) orders();
        else if (kind == 15 && r.nextInt(3) == 0) law();
        else if (kind == 16 && r.nextInt(4) == 0) change(a, b, c, w, big);
        else if (kind == 17) due("foe", x.foe(a + 1), m.foe(a + 1));
        else if (kind == 18) keep(a, b, w);
        else paper(a, b, c, w, big);
    }

    private void change(int a, int b, int c, int w, int big) {
        int kind = r.nextInt(7);
        if (kind == 0) house(a + 1);
        else if (kind == 1) door(b);
        else if (kind == 2) due("put", x.put(c, w, big), m.put(c, w, big));
        else if (kind == 3) due("put", x.put(c, 1, b), m.put(c, 1, b));
        else if (kind == 4) due("terms", x.terms(w, big * 10), m.terms(w, big * 10));
        else if (kind == 5) due("terms", x.terms(1, a), m.terms(1, a));
        else {
            StringBuilder row = new StringBuilder();
            int bytes = r.nextInt(60);
            for (int i = 0; i < bytes; i++) row.append((char) r.nextInt(r.nextInt(3) == 0 ? 256 : 6));
            text(row.toString());
            due("row", x.row(), m.row());
            due("foam", x.foam(), m.foam());
        }
    }

    private void keep(int a, int b, int w) {
        int kind = r.nextInt(8);
        if (kind < 2) due("image " + w, x.image(w), m.image(w));
        else if (kind < 4) due("back " + w, x.back(w), m.back(w));
        else if (kind < 6) due("force " + (a - 1), x.force(a - 1), m.force(a - 1));
        else if (kind == 6 && r.nextInt(3) == 0) due("peace", x.peace(), m.peace());
        else {
            int seed = n(1_000_001);
            int n = 1 + n(60);
            due("summers " + seed + " " + n, x.summers(seed, n), m.summers(seed, n));
        }
    }

    private void paper(int a, int b, int c, int w, int big) {
        int cells = 0;
        for (int i = 0; i < Math.min(a, 9); i++) cells |= 1 << r.nextInt(25);
        if (r.nextInt(wild) == 0) cells = r.nextInt();
        switch (r.nextInt(16)) {
            case 0 -> due("fleet " + big, x.fleet(big, w), m.fleet(big, w));
            case 1 -> due("hanging", x.hanging(b), m.hanging(b));
            case 2 -> due("right", x.right(), m.right());
            case 3 -> due("heard", x.heard(big, b), m.heard(big, b));
            case 4 -> due("knock", x.knock(w), m.knock(w));
            case 5 -> due("wreck", x.wreck(c, big), m.wreck(c, big));
            case 6 -> due("search " + cells, x.search(cells, b - 1), m.search(cells, b - 1));
            case 7 -> due("afloat", x.afloat(a, big), m.afloat(a, big));
            case 8 -> due("guards", x.guards(w), m.guards(w));
            case 9 -> due("battle", x.battle(b), m.battle(b));
            case 10 -> due("share", x.share(big * 1003, a), m.share(big * 1003, a));
            case 11 -> due("drawn", x.drawn(c, w), m.drawn(c, w));
            case 12 -> due("drawn", x.drawn(a, w), m.drawn(a, w));
            case 13 -> due("asks", x.asks(a, c, w), m.asks(a, c, w));
            case 14 -> due("frame", x.frame(a, b), m.frame(a, b));
            default -> due("of", x.of(a, b), m.of(a, b));
        }
    }

    /** Questions change nothing; these count as no calls of the run. */
    private void lookAtAll() {
        int before = calls;
        for (int d = 0; d < 8; d++) {
            for (int what = 0; what < 9; what++) due("of " + d + " " + what, x.of(d, what), m.of(d, what));
            for (int what = 0; what < 10; what++) due("frame " + d + " " + what, x.frame(d, what), m.frame(d, what));
            for (int what = 0; what < 2; what++) due("drawn " + d + " " + what, x.drawn(d, what), m.drawn(d, what));
            due("share " + d, x.share(12345, d), m.share(12345, d));
            due("afloat " + d, x.afloat(d, 7), m.afloat(d, 7));
            due("asks", x.asks(d, 3 * d, 0), m.asks(d, 3 * d, 0));
            due("asks", x.asks(d, 3 * d, 1), m.asks(d, 3 * d, 1));
        }
        for (int c = 0; c < 25; c++) {
            for (int what = 0; what < 3; what++) due("at " + c + " " + what, x.at(c, what), m.at(c, what));
            due("drawn " + c, x.drawn(c, 2), m.drawn(c, 2));
        }
        for (int what = -1; what < 17; what++) due("count " + what, x.count(what), m.count(what));
        for (int what = 0; what < 10; what++) due("hanging " + what, x.hanging(what), m.hanging(what));
        for (int what = 0; what < 9; what++) due("battle " + what, x.battle(what), m.battle(what));
        for (int what = 0; what < 2; what++) {
            due("fleet", x.fleet(60, what), m.fleet(60, what));
            due("guards", x.guards(what), m.guards(what));
            due("knock", x.knock(what), m.knock(what));
        }
        due("right", x.right(), m.right());
        due("fault", x.fault(), m.fault());
        due("stopped", x.stopped(), m.stopped());
        due("foam", x.foam(), m.foam());
        due("status", x.status(), m.status());
        calls = before;
    }
}
