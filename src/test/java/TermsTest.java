/** Each sentence of "Terms" that names an edge: parts I, III and IV (II: TextsTest). */
public final class TermsTest extends Edge {
    public static void main(String[] args) {
        houses();
        doors();
        doorsStand();
        doorsOfOneHouse();
        sea();
        foesAndTerms();
        refusedBy();
        firstGround();
        launching();
        sailing();
        fishing();
        hangings();
        tides();
        tideIsUndone();
        fleets();
        hangingOfAll();
        right();
        knocks();
        wrecks();
        searches();
        afloat();
        guards();
        battles();
        shares();
        draws();
        summersRun();
        summersDraw();
        summersByLaw();
        rows();
        imagesKeep();
        imagesApart();
        fewerAgain();
        imagesOfEachCell();
        imagesOfSixLaws();
        imagesDoNotKeep();
        used();
        for (String part : new String[] {"I", "III", "IV"}) Doc.mustBeNamed("Terms " + part);
        Check.finish("TermsTest");
    }

    // ---- I ----

    private static void houses() {
        says("Terms I", "HOUSES 0 .. 7 (8 at most): SIZE 1 .. 9.");
        fresh();
        none(x -> x.frame(0, 0));
        refused(x -> x.house(0), -1);
        granted(x -> x.house(1), 0);
        refused(x -> x.house(10), -1);
        granted(x -> x.house(9), 1);
        for (int odd : ODD) refused(x -> x.house(odd), -1);
        due(x -> x.frame(0, 0), 1);
        due(x -> x.frame(1, 0), 9);
        none(x -> x.frame(2, 0));
        for (int h = 2; h < 8; h++) {
            int size = h;
            granted(x -> x.house(size), size);
        }
        due(x -> x.frame(7, 0), 7);
        refused(x -> x.house(1), -5);
        refused(x -> x.house(9), -5);
        none(x -> x.frame(8, 0));
        due(x -> x.count(0), 8);
    }

    private static void doors() {
        says("Terms I", "DOORS 0 .. 7 (8 at most): WIDE 1 .. 9, WOOD 0 .. 3, a HOME (a HOUSE), KNOCKS 0 .. 63 (six bits).");
        fresh(5, 5);
        none(x -> x.of(0, 0));
        refused(x -> x.door(0, 0, 0, 0), -1);
        refused(x -> x.door(10, 0, 0, 0), -1);
        refused(x -> x.door(1, -1, 0, 0), -1);
        refused(x -> x.door(1, 4, 0, 0), -1);
        refused(x -> x.door(1, 0, 0, -1), -1);
        refused(x -> x.door(1, 0, 0, 64), -1);
        refused(x -> x.door(1, 0, -1, 0), -2);
        refused(x -> x.door(1, 0, 2, 0), -2);
        for (int odd : ODD) {
            refused(x -> x.door(odd, 0, 0, 0), -1);
            refused(x -> x.door(1, odd, 0, 0), -1);
            refused(x -> x.door(1, 0, odd, 0), -2);
            refused(x -> x.door(1, 0, 0, odd), -1);
        }
        granted(x -> x.door(1, 0, 0, 0), 0);
        granted(x -> x.door(9, 3, 1, 63), 1);
        int[] least = {1, 0, 0, 0};
        int[] most = {9, 3, 1, 63};
        for (int what : upTo(4)) {
            due(x -> x.of(0, what), least[what]);
            due(x -> x.of(1, what), most[what]);
        }
        none(x -> x.of(2, 0));
        fresh(5, 5, 5, 5, 5, 5, 5, 5);
        for (int d : upTo(8)) granted(x -> x.door(5, 0, d, 0), d);
        does(x -> x.launch(3));
        refused(x -> x.door(5, 0, 3, 0), -5);
        due(x -> x.count(1), 8);
        none(x -> x.of(8, 0));
    }

    private static void doorsStand() {
        says("Terms I", "A DOOR HANGS in a HOUSE (one in each at most), is at SEA in a CELL, or is LOST; its CATCH 0 .. 999.");
        hung(5, 5);
        stands(0, -1, 0);
        due(x -> x.of(0, 6), 0);
        refused(x -> x.door(5, 0, 0, 0), -3);
        does(x -> x.launch(0));
        stands(-1, 0, 0);
        refused(x -> x.hang(0, 1), -3);
        rule("catches 99");
        for (int n = 1; n <= 10; n++) {
            does(x -> x.put(0, 0, 99));
            granted(x -> x.fish(0), 99);
        }
        due(x -> x.of(0, 6), 990);
        does(x -> x.put(0, 0, 9));
        granted(x -> x.fish(0), 9);
        due(x -> x.of(0, 6), 999);
        does(x -> x.put(0, 0, 1));
        granted(x -> x.fish(0), 1);
        due(x -> x.of(0, 6), 999);
        does(x -> x.put(0, 1, 1));
        does(x -> x.tide());
        stands(-1, -1, 1);

        says("Terms I", "A HOUSE without a DOOR is OPEN.");
        fresh(5, 5);
        due(x -> x.count(3), 2);
        due(x -> x.frame(1, 1), -1);
        does(x -> x.door(5, 0, 1, 0));
        due(x -> x.count(3), 1);
        due(x -> x.frame(1, 1), 0);
        does(x -> x.launch(0));
        due(x -> x.count(3), 2);
        due(x -> x.frame(1, 1), -1);
        granted(x -> x.door(5, 0, 1, 0), 1);
        due(x -> x.frame(1, 1), 1);
    }

    /** There may be more DOORS than HOUSES. */
    private static void doorsOfOneHouse() {
        says("Terms I", "DOORS 0 .. 7 (8 at most)");
        fresh(5);
        for (int d : upTo(8)) {
            granted(x -> x.door(5, 0, 0, d), d);
            does(x -> x.launch(d));
        }
        does(x -> x.foe(4));
        due(x -> x.at(0, 2), 8);
        due(x -> x.heard(0, 6), 255);
        due(x -> x.knock(1), 3);
        due(x -> x.share(7, 6), 1);
        due(x -> x.share(7, 7), 0);
        due(x -> x.hanging(0), 1);
        due(x -> x.hanging(2), 0);
        due(x -> x.hanging(9), 100);
        due(x -> x.battle(1), 0);
        due(x -> x.battle(8), 100);
        does(x -> x.sail(7, 2));
        does(x -> x.foe(4));
        due(x -> x.battle(2), 1);
        rule("catches 1;slams 0");
        granted(x -> x.summers(0, 1), 0);
        for (int d : upTo(8)) due(x -> x.drawn(d, 1), 1);
        does(x -> x.sail(7, 4));
        granted(x -> x.hang(7, 0), 0);
        due(x -> x.fleet(1, 1), 128);
        due(x -> x.frame(0, 1), 7);
        does(x -> x.put(0, 1, 1));
        granted(x -> x.tide(), 7);
        due(x -> x.count(4), 7);
        due(x -> x.of(7, 7), 0);
    }

    /** Where DOOR 0 is: the HOUSE, the CELL, whether LOST. */
    private static void stands(int house, int cell, int lost) {
        due(x -> x.of(0, 4), house);
        due(x -> x.of(0, 5), cell);
        due(x -> x.of(0, 7), lost);
    }

    private static void sea() {
        says("Terms I", "The SEA: CELLS 0 .. 24 (5 y and x; x, y 0 .. 4)");
        fresh();
        for (int what : upTo(2)) {
            none(x -> x.at(-1, what));
            due(x -> x.at(0, what), what == 0 ? 10 : 0);
            due(x -> x.at(24, what), what == 0 ? 10 : 0);
            none(x -> x.at(25, what));
            refused(x -> x.put(-1, what, 0), -1);
            granted(x -> x.put(24, what, 0), what == 0 ? 10 : 0);
            refused(x -> x.put(25, what, 0), -1);
            for (int odd : ODD) refused(x -> x.put(odd, what, 0), -1);
            for (int odd : ODD) none(x -> x.at(odd, what));
        }
        says("Terms I", "FISH 0 .. 99 (10 at first), DRIFT 0 .. 4 (0 at first: none, 1 up: y less, 2 right, 3 down, 4 left).");
        fresh();
        for (int c : upTo(25)) {
            due(x -> x.at(c, 0), 10);
            due(x -> x.at(c, 1), 0);
        }
        refused(x -> x.put(7, 0, 100), -1);
        granted(x -> x.put(7, 0, 99), 10);
        refused(x -> x.put(7, 0, -1), -1);
        granted(x -> x.put(7, 0, 0), 99);
        due(x -> x.at(7, 0), 0);
        refused(x -> x.put(7, 1, 5), -1);
        granted(x -> x.put(7, 1, 4), 0);
        refused(x -> x.put(7, 1, -1), -1);
        granted(x -> x.put(7, 1, 0), 4);
        for (int what : upTo(2)) for (int odd : ODD) refused(x -> x.put(7, what, odd), -1);
        int[] beside = {12, 7, 13, 17, 11};
        for (int drift : upTo(5)) {
            fresh();
            does(x -> x.put(12, 1, drift));
            for (int c : upTo(25)) due(x -> x.wreck(c, 1) >> 12 & 1, c == beside[drift] ? 1 : 0);
        }
        says("Terms I", "CELL 0 is the HARBOUR.");
        hung(5);
        does(x -> x.launch(0));
        due(x -> x.of(0, 5), 0);
        due(x -> x.at(0, 2), 1);
    }

    private static void foesAndTerms() {
        says("Terms I", "FOES 0 .. 7 (8 at most): STRONG 1 .. 9.");
        fresh();
        refused(x -> x.foe(0), -1);
        granted(x -> x.foe(1), 0);
        refused(x -> x.foe(10), -1);
        granted(x -> x.foe(9), 1);
        for (int odd : ODD) refused(x -> x.foe(odd), -1);
        for (int f = 2; f < 8; f++) {
            int number = f;
            granted(x -> x.foe(5), number);
        }
        refused(x -> x.foe(5), -5);
        due(x -> x.count(2), 8);

        says("Terms I", "TERMS: 0 DAY 0 .. 999 (0 at first), 1 MOOD 0 .. 9 (0).");
        fresh();
        due(x -> x.count(14), 0);
        due(x -> x.count(15), 0);
        int[] most = {999, 9};
        for (int what : upTo(2)) {
            refused(x -> x.terms(what, -1), -1);
            refused(x -> x.terms(what, most[what] + 1), -1);
            granted(x -> x.terms(what, most[what]), 0);
            due(x -> x.count(14 + what), most[what]);
            granted(x -> x.terms(what, 0), most[what]);
            for (int odd : ODD) refused(x -> x.terms(what, odd), -1);
        }
        refused(x -> x.terms(-1, 0), -1);
        refused(x -> x.terms(2, 0), -1);
    }

    private static void refusedBy() {
        says("Terms I", "REFUSED by: -1 a number that can't be;");
        hung(5, 5);
        refused(x -> x.house(0), -1);
        says("Terms I", "-2 there is no such HOUSE, DOOR, LAW, IMAGE;");
        refused(x -> x.door(1, 0, 2, 0), -2);
        refused(x -> x.launch(2), -2);
        refused(x -> x.force(0), -2);
        refused(x -> x.back(1), -2);
        says("Terms I", "-3 it can't be by what stands;");
        refused(x -> x.fish(0), -3);
        says("Terms I", "-5 no room;");
        for (int f = 0; f < 8; f++) does(x -> x.foe(1));
        refused(x -> x.foe(1), -5);
        says("Terms I", "-6 a TEXT, a ROW that can't be.");
        unread(x -> x.row(), -6, -1, -1);
        unread(x -> x.law(), -6, 0, -1);
        unread(x -> x.orders(), -6, 0, -1);
    }

    private static void firstGround() {
        says("Terms I", "The first of these in that order.");
        hung(5, 5, 5, 5, 5, 5, 5, 5);
        refused(x -> x.house(10), -1);
        refused(x -> x.door(0, 0, 8, 0), -1);
        refused(x -> x.door(1, 4, 0, 0), -1);
        refused(x -> x.door(1, 0, 0, 64), -1);
        refused(x -> x.door(1, 0, 8, 0), -2);
        refused(x -> x.door(1, 0, 0, 0), -3);
        does(x -> x.launch(7));
        refused(x -> x.door(1, 0, 7, 64), -1);
        refused(x -> x.door(1, 0, -1, 0), -2);
        refused(x -> x.door(1, 0, 7, 0), -5);
        for (int f = 0; f < 8; f++) does(x -> x.foe(1));
        refused(x -> x.foe(0), -1);
        refused(x -> x.sail(8, 0), -1);
        refused(x -> x.sail(0, 5), -1);
        refused(x -> x.sail(8, 1), -2);
        refused(x -> x.sail(0, 1), -3);
        refused(x -> x.hang(8, 0), -2);
        refused(x -> x.hang(0, 8), -2);
        refused(x -> x.hang(0, 0), -3);
        refused(x -> x.back(2), -1);
        tell("fish 0; !");
        unread(x -> x.orders(), -6, 8, -1);
        for (int l = 0; l < 6; l++) rule("fits");
        unread(x -> x.law(), -5, -1, -1);
        tell("!");
        unread(x -> x.law(), -5, -1, -1);
    }

    // ---- III: deeds ----

    private static void launching() {
        says("Terms III", "To LAUNCH a DOOR that HANGS, not BARRED: it is in the HARBOUR.");
        hung(5, 6);
        rule("bars if wide = 6");
        refused(x -> x.launch(1), -3);
        granted(x -> x.launch(0), 0);
        due(x -> x.of(0, 5), 0);
        due(x -> x.of(0, 4), -1);
        refused(x -> x.launch(0), -3);
        does(x -> x.put(0, 1, 4));
        does(x -> x.tide());
        refused(x -> x.launch(0), -3);
        does(x -> x.force(-1));
        granted(x -> x.launch(1), 0);
    }

    private static void sailing() {
        says("Terms III", "To SAIL: to the CELL beside, as DRIFT tells, that there is.");
        hung(5);
        refused(x -> x.sail(0, 2), -3);
        does(x -> x.launch(0));
        int[] back = {0, 3, 4, 1, 2};
        for (int cell : upTo(25)) {
            int x0 = cell % 5;
            int y0 = cell / 5;
            int[] beside = {-1, y0 > 0 ? cell - 5 : -1, x0 < 4 ? cell + 1 : -1, y0 < 4 ? cell + 5 : -1,
                x0 > 0 ? cell - 1 : -1};
            for (int i = 0; i < x0; i++) does(x -> x.sail(0, 2));
            for (int i = 0; i < y0; i++) does(x -> x.sail(0, 3));
            due(x -> x.of(0, 5), cell);
            for (int by = 1; by <= 4; by++) {
                int to = by;
                if (beside[by] < 0) {
                    refused(x -> x.sail(0, to), -3);
                } else {
                    granted(x -> x.sail(0, to), beside[to]);
                    granted(x -> x.sail(0, back[to]), cell);
                }
            }
            for (int i = 0; i < x0; i++) does(x -> x.sail(0, 4));
            for (int i = 0; i < y0; i++) does(x -> x.sail(0, 1));
        }
    }

    private static void fishing() {
        says("Terms III", "To FISH: CATCH is more by what it CATCHES (999 at most), FISH less by that.");
        launched(5);
        does(x -> x.put(0, 0, 15));
        granted(x -> x.fish(0), 15);
        due(x -> x.at(0, 0), 0);
        granted(x -> x.fish(0), 0);
        due(x -> x.at(0, 0), 0);
        due(x -> x.of(0, 6), 15);
        does(x -> x.put(0, 0, 16));
        granted(x -> x.fish(0), 15);
        due(x -> x.at(0, 0), 1);
        due(x -> x.of(0, 6), 30);
        due(x -> x.at(1, 0), 10);
        does(x -> x.put(9, 0, 25));
        for (int by : new int[] {2, 2, 2, 2, 3}) does(x -> x.sail(0, by));
        granted(x -> x.fish(0), 15);
        due(x -> x.at(9, 0), 10);
        due(x -> x.at(0, 0), 1);
        due(x -> x.of(0, 6), 45);
        rule("catches cell");
        granted(x -> x.fish(0), 9);
        granted(x -> x.fish(0), 1);
        launched(5);
        does(x -> x.put(0, 0, 30));
        does(x -> x.fish(0));
        does(x -> x.fish(0));
        rule("catches 99");
        for (int n = 0; n < 9; n++) {
            does(x -> x.put(0, 0, 99));
            does(x -> x.fish(0));
        }
        does(x -> x.put(0, 0, 77));
        does(x -> x.fish(0));
        due(x -> x.of(0, 6), 998);
        does(x -> x.put(0, 0, 50));
        granted(x -> x.fish(0), 50);
        due(x -> x.of(0, 6), 999);
        due(x -> x.at(0, 0), 0);
    }

    private static void hangings() {
        says("Terms III", "To HANG a DOOR that is in the HARBOUR in an OPEN HOUSE which it FITS: its CATCH is told and 0 then.");
        hung(5, 5);
        for (int size : new int[] {3, 4, 6, 7}) does(x -> x.house(size));
        refused(x -> x.hang(0, 3), -3);
        does(x -> x.launch(0));
        does(x -> x.fish(0));
        refused(x -> x.hang(0, 1), -3);
        refused(x -> x.hang(0, 2), -3);
        refused(x -> x.hang(0, 5), -3);
        does(x -> x.sail(0, 2));
        refused(x -> x.hang(0, 3), -3);
        does(x -> x.sail(0, 4));
        does(x -> x.sail(0, 3));
        refused(x -> x.hang(0, 3), -3);
        does(x -> x.sail(0, 1));
        granted(x -> x.hang(0, 3), 10);
        due(x -> x.of(0, 6), 0);
        due(x -> x.of(0, 4), 3);
        due(x -> x.of(0, 5), -1);
        does(x -> x.launch(0));
        granted(x -> x.hang(0, 4), 0);
        does(x -> x.launch(0));
        does(x -> x.put(0, 1, 1));
        does(x -> x.tide());
        refused(x -> x.hang(0, 4), -3);
    }

    private static void tides() {
        says("Terms III", "A TIDE: DOORS at SEA go by the DRIFT of their CELLS, over the edge they are LOST;");
        for (int cell : upTo(25)) {
            for (int drift : upTo(5)) {
                boolean over = drift == 1 && cell < 5 || drift == 2 && cell % 5 == 4 || drift == 3 && cell > 19
                    || drift == 4 && cell % 5 == 0;
                int[] steps = {0, -5, 1, 5, -1};
                at(cell);
                does(x -> x.put(cell, 1, drift));
                granted(x -> x.tide(), over ? 1 : 0);
                due(x -> x.of(0, 5), over ? -1 : cell + steps[drift]);
                due(x -> x.of(0, 7), over ? 1 : 0);
            }
        }
        launched(5, 5);
        does(x -> x.put(0, 1, 2));
        does(x -> x.put(1, 1, 2));
        does(x -> x.sail(1, 2));
        granted(x -> x.tide(), 0);
        due(x -> x.of(0, 5), 1);
        due(x -> x.of(1, 5), 2);

        says("Terms III", "then FISH of all CELLS is one more (99 at most);");
        fresh();
        does(x -> x.put(0, 0, 98));
        does(x -> x.put(24, 0, 99));
        does(x -> x.put(12, 0, 0));
        does(x -> x.tide());
        for (int c : upTo(25)) due(x -> x.at(c, 0), c == 0 || c == 24 ? 99 : c == 12 ? 1 : 11);
        does(x -> x.tide());
        due(x -> x.at(0, 0), 99);

        says("Terms III", "it is the next DAY (at 999 it can't be).");
        launched(5);
        does(x -> x.put(0, 1, 1));
        does(x -> x.terms(0, 999));
        refused(x -> x.tide(), -3);
        does(x -> x.terms(0, 998));
        granted(x -> x.tide(), 1);
        due(x -> x.count(14), 999);
        refused(x -> x.tide(), -3);
    }

    /** DOOR 0 in this CELL, without any DRIFT. */
    private static void at(int cell) {
        launched(5);
        for (int i = 0; i < cell % 5; i++) does(x -> x.sail(0, 2));
        for (int i = 0; i < cell / 5; i++) does(x -> x.sail(0, 3));
    }

    /** Undone, FISH that was 99 is 99, and DOORS that were LOST are where they were. */
    private static void tideIsUndone() {
        says("Terms III", "then FISH of all CELLS is one more (99 at most);");
        launched(5, 5);
        does(x -> x.put(0, 1, 4));
        does(x -> x.put(3, 0, 99));
        does(x -> x.put(4, 0, 98));
        does(x -> x.fish(1));
        does(x -> x.sail(1, 3));
        granted(x -> x.tide(), 1);
        due(x -> x.count(4), 1);
        granted(x -> x.undo(), 4);
        due(x -> x.at(3, 0), 99);
        due(x -> x.at(4, 0), 98);
        due(x -> x.of(0, 5), 0);
        due(x -> x.of(1, 5), 5);
        due(x -> x.of(1, 6), 10);
        due(x -> x.count(14), 0);
    }

    // ---- III: on paper ----

    private static void fleets() {
        says("Terms III", "a FLEET for a told catch: the fewest DOORS that HANG and are not BARRED which together could CATCH so much or more at once");
        hung(1, 2, 3);
        due(x -> x.fleet(0, 0), 0);
        due(x -> x.fleet(1, 0), 1);
        due(x -> x.fleet(9, 0), 1);
        due(x -> x.fleet(10, 0), 2);
        due(x -> x.fleet(15, 0), 2);
        due(x -> x.fleet(16, 0), 3);
        due(x -> x.fleet(18, 0), 3);
        due(x -> x.fleet(18, 1), 7);
        none(x -> x.fleet(19, 0));
        none(x -> x.fleet(19, 1));
        rule("bars if wide = 2");
        due(x -> x.fleet(12, 1), 5);
        none(x -> x.fleet(13, 1));
        does(x -> x.launch(2));
        due(x -> x.fleet(3, 1), 1);
        none(x -> x.fleet(4, 1));
        does(x -> x.hang(2, 2));
        does(x -> x.launch(0));
        due(x -> x.fleet(3, 1), 4);
        due(x -> x.fleet(0, 1), 0);
        none(x -> x.fleet(10, 1));

        says("Terms III", "in a CELL of 99 FISH (the HARBOUR; each asked with that, CATCH 0); the lowest as bits.");
        hung(5, 5, 5);
        does(x -> x.put(0, 0, 0));
        rule("catches 50 if fish = 99 and cell = 0 and catch = 0 and house = 0 - 1 and size = 0 - 1;catches 0 if fish < 99");
        due(x -> x.fleet(50, 1), 1);
        due(x -> x.fleet(51, 1), 3);
        due(x -> x.fleet(101, 1), 7);
        none(x -> x.fleet(151, 1));
        rule("catches 1000");
        due(x -> x.fleet(99, 1), 1);
        due(x -> x.fleet(100, 1), 3);
        due(x -> x.fleet(297, 1), 7);
        none(x -> x.fleet(298, 1));
        rule("catches wide * 10 - door");
        due(x -> x.fleet(48, 1), 1);
        due(x -> x.fleet(97, 1), 3);
        due(x -> x.fleet(98, 1), 3);
        due(x -> x.fleet(99, 1), 3);
        due(x -> x.fleet(100, 1), 7);
    }

    private static void hangingOfAll() {
        says("Terms III", "HANGING: all DOORS that are not LOST, each in a HOUSE of its own which it FITS, or in none: by which the most HANG,");
        fresh(5, 6);
        does(x -> x.door(4, 0, 0, 0));
        does(x -> x.door(5, 0, 1, 0));
        hangs(2, 2, 0, 1);
        fresh(5, 6, 9);
        does(x -> x.door(5, 0, 0, 0));
        does(x -> x.launch(0));
        does(x -> x.door(4, 0, 0, 0));
        hangs(2, 1, 1, 0);
        does(x -> x.door(1, 0, 2, 0));
        hangs(2, 1, 1, 0, 100);
        does(x -> x.put(0, 1, 1));
        does(x -> x.tide());
        hangs(1, 1, -1, 0, 100);
        fresh(3, 9, 6, 6);
        for (int d : upTo(4)) does(x -> x.door(new int[] {3, 1, 7, 6}[d], 0, d, 0));
        hangs(3, 3, 0, 100, 2, 3);

        says("Terms III", "then the most in their HOMES; the first as a row of HOUSES by DOORS (none last).");
        hung(5, 5, 5);
        hangs(3, 3, 0, 1, 2);
        fresh(5, 5, 5);
        does(x -> x.door(5, 0, 1, 0));
        does(x -> x.launch(0));
        does(x -> x.door(5, 0, 1, 0));
        hangs(2, 1, 0, 1);
        fresh(5);
        does(x -> x.door(1, 0, 0, 0));
        does(x -> x.launch(0));
        does(x -> x.door(5, 0, 0, 0));
        does(x -> x.launch(1));
        does(x -> x.door(6, 0, 0, 0));
        hangs(1, 1, 100, 0, 100);
        fresh(9, 9, 5);
        does(x -> x.door(5, 0, 0, 0));
        hangs(1, 0, 2);
        fresh();
        hangs(0, 0);
    }

    /** HANGING: how many HANG, how many at HOME, the row. */
    private static void hangs(int hang, int home, int... row) {
        due(x -> x.hanging(0), hang);
        due(x -> x.hanging(1), home);
        for (int d : upTo(row.length)) due(x -> x.hanging(2 + d), row[d]);
        none(x -> x.hanging(2 + row.length));
    }

    private static void right() {
        says("Terms III", "RIGHT: swaps of DOORS of two HOUSES (one of them may be OPEN: its DOOR moves there) by which all DOORS that HANG come to be in their HOMES,");
        fresh();
        due(x -> x.right(), 0);
        hung(5, 5, 5, 5, 5, 5, 5, 5);
        due(x -> x.right(), 0);
        Integer[] ring = {1, 2, 3, 4, 5, 6, 7, 0};
        hangAll(ring);
        due(x -> x.right(), 7);
        hangAll(1, 0, 3, 2, 5, 4, 7, 6);
        due(x -> x.right(), 4);
        hangAll(1, 2, 0, 4, 3, 5, 7, 6);
        due(x -> x.right(), 4);
        does(x -> x.launch(7));
        due(x -> x.right(), 4);
        does(x -> x.launch(2));
        due(x -> x.right(), 4);
        does(x -> x.hang(2, 2));
        due(x -> x.right(), 4);
        does(x -> x.launch(3));
        due(x -> x.right(), 4);

        says("Terms III", "if those HOMES are all unlike: the fewest.");
        fresh(5, 5);
        does(x -> x.door(5, 0, 0, 0));
        does(x -> x.launch(0));
        does(x -> x.door(5, 0, 0, 0));
        due(x -> x.right(), 0);
        does(x -> x.hang(0, 1));
        none(x -> x.right());
        does(x -> x.launch(1));
        due(x -> x.right(), 1);
        fresh(5, 5);
        does(x -> x.door(5, 0, 1, 0));
        does(x -> x.launch(0));
        does(x -> x.hang(0, 0));
        due(x -> x.right(), 1);
    }

    /** DOOR d in the HOUSE told for it. */
    private static void hangAll(Integer... houses) {
        for (int d : upTo(8)) does(x -> x.launch(d));
        for (int d : upTo(8)) granted(x -> x.hang(d, houses[d]), 0);
    }

    private static void knocks() {
        says("Terms III", "HEARD in fog: DOORS whose KNOCKS are no more than k bits unlike.");
        fresh(5, 5, 5, 5, 5, 5, 5);
        for (int d : upTo(7)) does(x -> x.door(5, 0, d, (1 << d) - 1));
        for (int k : upTo(7)) {
            due(x -> x.heard(0, k), (2 << k) - 1);
            due(x -> x.heard(63, k), 127 & ~((1 << 6 - k) - 1));
        }
        says("Terms III", "A NEW KNOCK: that of which the least number of bits unlike to KNOCKS of all DOORS is greatest; the lowest.");
        due(x -> x.knock(0), 42);
        due(x -> x.knock(1), 3);
        fresh(5, 5);
        does(x -> x.door(5, 0, 0, 5));
        due(x -> x.knock(0), 58);
        due(x -> x.knock(1), 6);
        does(x -> x.put(0, 1, 1));
        does(x -> x.launch(0));
        does(x -> x.tide());
        due(x -> x.knock(0), 58);
        for (int knocks : upTo(64)) {
            fresh(5);
            does(x -> x.door(5, 0, 0, knocks));
            due(x -> x.knock(0), 63 - knocks);
            due(x -> x.knock(1), 6);
        }
        fresh(5, 5);
        does(x -> x.door(5, 0, 0, 5));
        does(x -> x.door(5, 0, 1, 58));
        due(x -> x.knock(1), 3);
        due(x -> x.knock(0), 2);
        fresh(5, 5);
        does(x -> x.door(5, 0, 0, 63));
        does(x -> x.door(5, 0, 1, 62));
        due(x -> x.knock(0), 0);
        due(x -> x.knock(1), 5);
    }

    private static void wrecks() {
        says("Terms III", "A WRECK found in a CELL: CELLS from which DRIFT alone leads there in just n TIDES.");
        fresh();
        for (int c : upTo(25)) {
            due(x -> x.wreck(c, 0), 1 << c);
            due(x -> x.wreck(c, 1), 1 << c);
            due(x -> x.wreck(c, 99), 1 << c);
        }
        // A ring of four: 0, 1, 6, 5.
        does(x -> x.put(0, 1, 2));
        does(x -> x.put(1, 1, 3));
        does(x -> x.put(6, 1, 4));
        does(x -> x.put(5, 1, 1));
        due(x -> x.wreck(0, 1), 1 << 5);
        due(x -> x.wreck(0, 2), 1 << 6);
        due(x -> x.wreck(0, 4), 1);
        due(x -> x.wreck(0, 98), 1 << 6);
        due(x -> x.wreck(0, 99), 1 << 1);
        does(x -> x.put(24, 1, 3));
        due(x -> x.wreck(24, 0), 1 << 24);
        due(x -> x.wreck(24, 1), 0);
        does(x -> x.put(24, 1, 2));
        due(x -> x.wreck(24, 1), 0);
        due(x -> x.wreck(20, 1), 1 << 20);
    }

    private static void searches() {
        says("Terms III", "A SEARCH: from the HARBOUR through told CELLS, 7 at most, the fewest steps (|x| and |y|); the first as a row of CELLS.");
        fresh();
        due(x -> x.search(0, -1), 0);
        due(x -> x.search(1, -1), 0);
        due(x -> x.search(1 << 24, -1), 8);
        due(x -> x.search(1 << 24, 0), 24);
        searched(1 << 1 | 1 << 5, 3, 1, 5);
        searched(1 << 4 | 1 << 20 | 1 << 24, 12, 4, 24, 20);
        searched(1 << 6 | 1 << 2, 4, 2, 6);
        searched(1 | 1 << 2 | 1 << 24, 8, 0, 2, 24);
        searched(0b11111110, 8, 1, 5, 6, 7, 2, 3, 4);
        // No seven CELLS take more steps than these.
        searched(1 << 4 | 1 << 7 | 1 << 11 | 1 << 13 | 1 << 17 | 1 << 20 | 1 << 24, 20, 4, 7, 11, 13, 17, 20, 24);
        searched(1 << 4 | 1 << 8 | 1 << 12 | 1 << 16 | 1 << 18 | 1 << 20 | 1 << 24, 18, 4, 8, 12, 16, 18, 24, 20);
        none(x -> x.search(0b111111110, -1));
        none(x -> x.search(0b111111110, 0));
    }

    private static void searched(int cells, int steps, int... row) {
        due(x -> x.search(cells, -1), steps);
        for (int i : upTo(row.length)) due(x -> x.search(cells, i), row[i]);
        none(x -> x.search(cells, row.length));
    }

    private static void afloat() {
        says("Terms III", "AFLOAT: the chance, of 1,000,000,000,000 parts, that a DOOR at SEA is not LOST in n TIDES:");
        launched(5);
        due(x -> x.afloat(0, 0), 1_000_000_000_000L);
        rule("slams 0");
        due(x -> x.afloat(0, 60), 1_000_000_000_000L);
        rule("slams 10");
        due(x -> x.afloat(0, 0), 1_000_000_000_000L);
        due(x -> x.afloat(0, 1), 0);

        says("Terms III", "each TIDE storms SLAM it in its CELL in so many of ten, then it goes by DRIFT; each part is cut.");
        rule("slams cell + 3");
        does(x -> x.put(0, 1, 2));
        does(x -> x.put(1, 1, 2));
        due(x -> x.afloat(0, 1), 700_000_000_000L);
        due(x -> x.afloat(0, 2), 420_000_000_000L);
        due(x -> x.afloat(0, 3), 210_000_000_000L);
        does(x -> x.put(2, 1, 1));
        due(x -> x.afloat(0, 2), 420_000_000_000L);
        due(x -> x.afloat(0, 3), 0);
        does(x -> x.put(0, 1, 0));
        does(x -> x.sail(0, 3));
        rule("slams 5;slams 2 if cell = 5;slams 4 if cell = 10");
        does(x -> x.put(5, 1, 3));
        due(x -> x.afloat(0, 1), 800_000_000_000L);
        due(x -> x.afloat(0, 2), 480_000_000_000L);
        due(x -> x.afloat(0, 3), 288_000_000_000L);
        does(x -> x.sail(0, 1));
        rule("slams cell + 3");
        long chance = 1_000_000_000_000L;
        for (int n = 0; n <= 60; n++) {
            int tides = n;
            due(x -> x.afloat(0, tides), chance);
            chance = chance / 10 * 7 + chance % 10 * 7 / 10;
        }
    }

    private static void guards() {
        says("Terms III", "GUARDS: the fewest HOUSES so that each OPEN one has a guard or is next (one more or less) to one that has; the lowest as bits.");
        int[] lowest = {0, 1, 1, 2, 5, 9, 18, 37, 73};
        for (int n : upTo(9)) {
            fresh("5".repeat(n));
            due(x -> x.guards(0), (n + 2) / 3);
            due(x -> x.guards(1), lowest[n]);
        }
        fresh("55555555");
        for (int h : new int[] {1, 2, 3, 4, 5, 6}) does(x -> x.door(5, 0, h, 0));
        due(x -> x.guards(1), 1 | 1 << 6);
        does(x -> x.door(5, 0, 0, 0));
        due(x -> x.guards(1), 1 << 6);
        does(x -> x.door(5, 0, 7, 0));
        due(x -> x.guards(0), 0);
        due(x -> x.guards(1), 0);
        for (int n : upTo(9)) for (int open : upTo(1 << n)) guarded(n, open);
    }

    /** So many HOUSES, these (bits) OPEN: every set of guards is tried. */
    private static void guarded(int houses, int open) {
        fresh("5".repeat(houses));
        for (int h : upTo(houses)) if ((open >> h & 1) == 0) does(x -> x.door(5, 0, h, 0));
        int best = (1 << houses) - 1;
        for (int set : upTo(1 << houses)) {
            boolean all = true;
            for (int h : upTo(houses)) all &= (open >> h & 1) == 0 || (set << 1 >> h & 7) != 0;
            if (all && Integer.bitCount(set) < Integer.bitCount(best)) best = set;
        }
        int lowest = best;
        due(x -> x.guards(0), Integer.bitCount(lowest));
        due(x -> x.guards(1), lowest);
    }

    /** HOUSES of SIZES told as digits ("" has none). */
    private static void fresh(String sizes) {
        fresh();
        for (int i = 0; i < sizes.length(); i++) {
            int size = sizes.charAt(i) - '0';
            does(x -> x.house(size));
        }
    }

    private static void battles() {
        says("Terms III", "A BATTLE: DOORS that are not LOST against FOES, each one against one at most: one wins, if WIDE is above STRONG: the most wins;");
        hung(5);
        fought(0, 100);
        does(x -> x.foe(6));
        fought(0, 0);
        does(x -> x.peace());
        does(x -> x.foe(5));
        fought(0, 0);
        does(x -> x.peace());
        does(x -> x.foe(4));
        fought(1, 0);
        hung(5, 9);
        does(x -> x.foe(4));
        does(x -> x.foe(8));
        fought(2, 0, 1);
        does(x -> x.put(0, 1, 1));
        does(x -> x.launch(0));
        fought(2, 0, 1);
        does(x -> x.tide());
        fought(1, -1, 0);

        says("Terms III", "the first as a row of FOES by DOORS (none last).");
        hung(9, 9, 9);
        does(x -> x.foe(1));
        does(x -> x.foe(1));
        fought(2, 0, 1, 100);
        hung(1, 9);
        does(x -> x.foe(3));
        fought(1, 100, 0);
        does(x -> x.foe(3));
        fought(1, 0, 1);
        hung(9, 4);
        does(x -> x.foe(3));
        does(x -> x.foe(8));
        fought(2, 1, 0);
        // More FOES than HOUSES, fewer than DOORS.
        hung(5);
        for (int strong : new int[] {9, 8, 7, 6, 5, 6, 7, 4}) does(x -> x.foe(strong));
        fought(1, 7);
        hung(2, 3, 4, 5, 6, 7, 8, 9);
        does(x -> x.foe(8));
        due(x -> x.hanging(0), 8);
        fought(1, 100, 100, 100, 100, 100, 100, 100, 0);
    }

    /** A BATTLE: the wins, the row. */
    private static void fought(int wins, int... row) {
        due(x -> x.battle(0), wins);
        for (int d : upTo(row.length)) due(x -> x.battle(1 + d), row[d]);
        none(x -> x.battle(1 + row.length));
    }

    private static void shares() {
        says("Terms III", "SHARES of a whale: DOORS at SEA by WIDE: whole parts, what is left one each by the greatest rests, the lowest first.");
        launched(1, 2, 3);
        shared(0, 0, 0, 0);
        shared(1, 0, 0, 1);
        shared(2, 0, 1, 1);
        shared(3, 1, 1, 1);
        shared(4, 1, 1, 2);
        shared(5, 1, 2, 2);
        shared(6, 1, 2, 3);
        shared(99_999, 16_667, 33_333, 49_999);
        launched(5, 5, 5, 5);
        shared(1, 1, 0, 0, 0);
        shared(3, 1, 1, 1, 0);
        shared(4, 1, 1, 1, 1);
        launched(9, 9, 9, 9, 9, 9, 9, 9);
        shared(99_999, 12_500, 12_500, 12_500, 12_500, 12_500, 12_500, 12_500, 12_499);
        hung(9, 1, 9);
        does(x -> x.launch(1));
        shared(7, -1, 7, -1);
        hung(9, 1, 1, 9);
        for (int d : new int[] {1, 2}) does(x -> x.launch(d));
        shared(7, -1, 4, 3, -1);
    }

    private static void shared(int whale, int... parts) {
        for (int d : upTo(parts.length)) due(x -> x.share(whale, d), parts[d]);
    }

    // ---- IV ----

    private static void draws() {
        says("Terms IV", "s is the SEED (0 .. 1,000,000); a DRAW of m: s becomes (s times 1103 and 12345) modulo 1,000,003, it is s modulo m.");
        // s by hand: 12,345; 13,448; 9,036; behind 1,000,003 for the first time: 1,003,942, which is 3,939.
        int[] seeds = {0, 1, 1_000_000, 899};
        int[] drawn = {5, 8, 6, 9};
        for (int i : upTo(4)) {
            launched(5);
            rule("slams " + drawn[i]);
            granted(x -> x.summers(seeds[i], 1), 0);
            rule("slams " + (drawn[i] + 1));
            granted(x -> x.summers(seeds[i], 1), 1);
        }
        refused(x -> x.summers(-1, 1), -1);
        refused(x -> x.summers(1_000_001, 1), -1);
        says("Terms IV", "SUMMERS with a SEED, n TIDES 1 .. 60, on paper:");
        refused(x -> x.summers(0, 0), -1);
        refused(x -> x.summers(0, 61), -1);
        for (int odd : ODD) {
            refused(x -> x.summers(odd, 1), -1);
            refused(x -> x.summers(0, odd), -1);
        }
        fresh();
        granted(x -> x.summers(0, 1), 0);
        due(x -> x.drawn(0, 2), 11);
        granted(x -> x.summers(0, 60), 0);
        due(x -> x.drawn(0, 2), 70);
        due(x -> x.at(0, 0), 10);
        due(x -> x.count(14), 0);
    }

    private static void summersRun() {
        says("Terms IV", "Each TIDE, as long as DAY is below 999,");
        fresh();
        does(x -> x.terms(0, 998));
        granted(x -> x.summers(0, 60), 0);
        due(x -> x.drawn(0, 2), 11);
        does(x -> x.terms(0, 997));
        granted(x -> x.summers(0, 60), 0);
        due(x -> x.drawn(0, 2), 12);
        does(x -> x.terms(0, 999));
        granted(x -> x.summers(0, 60), 0);
        due(x -> x.drawn(0, 2), 10);

        says("Terms IV", "each DOOR at SEA by numbers FISHES, then a DRAW of 10: below what SLAMS it it is LOST; then the TIDE.");
        launched(5, 5, 5);
        does(x -> x.hang(1, 1));
        rule("slams 0");
        does(x -> x.put(0, 0, 20));
        granted(x -> x.summers(0, 1), 0);
        due(x -> x.drawn(0, 1), 15);
        due(x -> x.drawn(1, 1), 0);
        due(x -> x.drawn(1, 0), -1);
        due(x -> x.drawn(2, 1), 5);
        due(x -> x.drawn(0, 2), 1);
        // From 0 on: 12,345 (5), 628,841 (1), 621,889 (9): DOORS 0 and 2, for DOOR 1 HANGS and draws none.
        rule("slams 5");
        granted(x -> x.summers(0, 1), 1);
        due(x -> x.drawn(0, 0), 0);
        due(x -> x.drawn(2, 0), -1);
        // Asked in the CELL ahead of the TIDE, with FISH and CATCH behind the fishing.
        rule("slams 0;slams 10 if cell = 0 and catch = 15 and fish = 5 and day = 0");
        granted(x -> x.summers(0, 1), 1);
        due(x -> x.drawn(0, 0), -1);
        does(x -> x.put(0, 1, 3));
        rule("slams 0;slams 10 if cell = 5");
        granted(x -> x.summers(0, 1), 0);
        granted(x -> x.summers(0, 2), 2);
        rule("slams 0");
        does(x -> x.put(0, 1, 4));
        granted(x -> x.summers(0, 1), 2);
        due(x -> x.drawn(0, 1), 15);
        due(x -> x.drawn(0, 0), -1);
        due(x -> x.of(0, 5), 0);
        launchedWith(990);
        granted(x -> x.summers(0, 1), 0);
        due(x -> x.drawn(0, 1), 999);
        due(x -> x.drawn(0, 2), 1);
    }

    /** From 0 on DRAWS are 5, 1, 9, 7, 0, 0, 3, 1 (s reckoned by hand). */
    private static void summersDraw() {
        says("Terms IV", "each DOOR at SEA by numbers FISHES, then a DRAW of 10: below what SLAMS it it is LOST; then the TIDE.");
        launched(5, 5, 5, 5, 5, 5, 5, 5);
        rule("slams 4");
        granted(x -> x.summers(0, 1), 5);
        for (int d : upTo(8)) due(x -> x.drawn(d, 0), d == 0 || d == 2 || d == 3 ? 0 : -1);
        launched(5, 5);
        rule("slams 1");
        granted(x -> x.summers(0, 2), 0);
        granted(x -> x.summers(0, 3), 2);
        rule("slams 2");
        granted(x -> x.summers(0, 1), 1);
        due(x -> x.drawn(1, 0), -1);
        granted(x -> x.summers(0, 3), 1);
        due(x -> x.drawn(0, 0), 0);
        granted(x -> x.summers(0, 4), 2);
    }

    /** The LAW is asked of the DAY and the CATCH in SUMMERS. */
    private static void summersByLaw() {
        says("Terms IV", "Each TIDE, as long as DAY is below 999,");
        launched(5);
        rule("slams 0;catches day + 1");
        granted(x -> x.summers(0, 4), 0);
        due(x -> x.drawn(0, 1), 10);
        rule("slams 0;catches catch + 1");
        granted(x -> x.summers(0, 3), 0);
        due(x -> x.drawn(0, 1), 7);
        rule("slams day * 10;catches 1");
        granted(x -> x.summers(0, 1), 0);
        granted(x -> x.summers(0, 2), 1);
        due(x -> x.of(0, 6), 0);
    }

    /** DOOR 0 in the HARBOUR with such a CATCH, and 99 FISH there. */
    private static void launchedWith(int caught) {
        launched(5);
        rule("slams 0;catches 99");
        for (int n = 0; n < caught / 99; n++) {
            does(x -> x.put(0, 0, 99));
            does(x -> x.fish(0));
        }
        does(x -> x.put(0, 0, 99));
        due(x -> x.of(0, 6), caught);
    }

    private static void rows() {
        says("Terms IV", "A ROW: the TAPE's bytes by twos: FISH, DRIFT: CELLS from 0 on;");
        fresh();
        tell(bytes(0, 0, 99, 4));
        granted(x -> x.row(), 2);
        due(x -> x.foam(), 0);
        due(x -> x.at(0, 0), 0);
        due(x -> x.at(0, 1), 0);
        due(x -> x.at(1, 0), 99);
        due(x -> x.at(1, 1), 4);
        due(x -> x.at(2, 0), 10);
        says("Terms IV", "one that can't be, one behind CELL 24, one within which the TAPE ends is FOAM, and leaves its CELL as it was.");
        fresh();
        tell(bytes(100, 1, 7, 5, 255, 255, 99, 4, 3));
        granted(x -> x.row(), 1);
        due(x -> x.foam(), 4);
        for (int c : upTo(25)) {
            due(x -> x.at(c, 0), c == 3 ? 99 : 10);
            due(x -> x.at(c, 1), c == 3 ? 4 : 0);
        }
        tell(bytes(1, 2).repeat(25));
        granted(x -> x.row(), 25);
        due(x -> x.foam(), 0);
        due(x -> x.at(24, 0), 1);
        due(x -> x.at(24, 1), 2);
        tell(bytes(3, 1).repeat(26));
        granted(x -> x.row(), 25);
        due(x -> x.foam(), 1);
        tell(bytes(4, 1).repeat(25) + bytes(4));
        granted(x -> x.row(), 25);
        due(x -> x.foam(), 1);
        tell(bytes(5, 1).repeat(24) + bytes(6));
        granted(x -> x.row(), 24);
        due(x -> x.foam(), 1);
        due(x -> x.at(23, 0), 5);
        due(x -> x.at(24, 0), 4);
        tell(bytes(7, 1).repeat(200));
        granted(x -> x.row(), 25);
        due(x -> x.foam(), 175);
        // The byte behind the end would do.
        fresh();
        does(x -> x.feed(0x02020202, 0x02020202, 0, 0, 0));
        does(x -> x.end(3));
        granted(x -> x.row(), 1);
        due(x -> x.foam(), 1);
        due(x -> x.at(1, 0), 10);
        due(x -> x.at(1, 1), 0);
    }

    private static void imagesKeep() {
        says("Terms IV", "BACK to one all that it keeps is as it was then (IMAGES stay).");
        hung(5, 6, 7);
        does(x -> x.house(2));
        does(x -> x.foe(3));
        rule("fits;slams 4");
        does(x -> x.terms(1, 6));
        does(x -> x.terms(0, 50));
        does(x -> x.put(9, 0, 42));
        does(x -> x.put(9, 1, 3));
        does(x -> x.launch(0));
        does(x -> x.fish(0));
        does(x -> x.image(1));
        change();
        granted(x -> x.back(1), 0);
        kept();
        does(x -> x.image(0));
        change();
        granted(x -> x.back(0), 0);
        kept();
        change();
        granted(x -> x.back(1), 0);
        kept();
        // A LAW behind BACK stands in the place of the one that the IMAGE has not.
        tell("slams 9");
        granted(x -> x.law(), 1);
        granted(x -> x.force(1), 0);
        due(x -> x.asks(0, 0, 1), 9);
    }

    private static void change() {
        does(x -> x.house(9));
        does(x -> x.sail(0, 2));
        does(x -> x.fish(0));
        does(x -> x.launch(1));
        does(x -> x.put(0, 1, 1));
        does(x -> x.put(9, 1, 0));
        does(x -> x.tide());
        does(x -> x.door(2, 3, 3, 17));
        does(x -> x.foe(8));
        rule("slams 1");
        does(x -> x.terms(1, 0));
        tell(bytes(1, 1).repeat(25));
        does(x -> x.row());
    }

    private static void kept() {
        int[] counts = {4, 3, 1, 2, 0, 1, 0, 0};
        for (int what : upTo(counts.length)) due(x -> x.count(what), counts[what]);
        due(x -> x.count(13), 0);
        due(x -> x.count(14), 50);
        due(x -> x.count(15), 6);
        due(x -> x.of(0, 2), 0);
        due(x -> x.of(0, 5), 0);
        due(x -> x.of(0, 6), 10);
        due(x -> x.of(1, 4), 1);
        due(x -> x.at(0, 0), 0);
        due(x -> x.at(0, 1), 0);
        due(x -> x.at(9, 0), 42);
        due(x -> x.at(9, 1), 3);
        due(x -> x.asks(0, 0, 1), 4);
        due(x -> x.battle(0), 1);
        due(x -> x.frame(3, 0), 2);
        none(x -> x.frame(4, 0));
    }

    /** Two IMAGES, in which the same numbers mean other HOUSES, DOORS, FOES, LAWS. */
    private static void imagesApart() {
        says("Terms IV", "BACK to one all that it keeps is as it was then (IMAGES stay).");
        fresh();
        does(x -> x.image(0));
        settle(3, 7, 5, 1, 8);
        does(x -> x.image(1));
        does(x -> x.back(0));
        settle(6, 2, 44, 2, 4);
        does(x -> x.image(0));
        for (int twice = 0; twice < 2; twice++) {
            granted(x -> x.back(1), 0);
            settled(3, 7, 5, 1, 8);
            granted(x -> x.back(0), 0);
            settled(6, 2, 44, 2, 4);
        }
    }

    /** Two HOUSES, a DOOR whose HOME is the first or the second, a FOE, a LAW in FORCE. */
    private static void settle(int size, int wide, int knocks, int wood, int slams) {
        does(x -> x.house(size));
        does(x -> x.house(size));
        does(x -> x.door(wide, wood, wood % 2, knocks));
        does(x -> x.foe(slams));
        rule("slams " + slams);
    }

    private static void settled(int size, int wide, int knocks, int wood, int slams) {
        due(x -> x.frame(0, 0), size);
        due(x -> x.frame(1, 0), size);
        int[] of = {wide, wood, wood % 2, knocks, wood % 2, -1, 0, 0, 0};
        for (int what : upTo(9)) due(x -> x.of(0, what), of[what]);
        due(x -> x.battle(0), wide > slams ? 1 : 0);
        due(x -> x.asks(0, 0, 1), slams);
        due(x -> x.count(6), 0);
    }

    /** Behind BACK there are fewer: nothing is left of what was reckoned with more. */
    private static void fewerAgain() {
        says("Terms IV", "BACK to one all that it keeps is as it was then (IMAGES stay).");
        hung(5);
        for (int size : new int[] {5, 5, 5}) does(x -> x.house(size));
        does(x -> x.image(0));
        for (int h = 1; h < 4; h++) {
            int home = h;
            does(x -> x.door(9, 0, home, 7));
            does(x -> x.foe(home));
        }
        does(x -> x.launch(3));
        does(x -> x.fish(3));
        due(x -> x.fleet(27, 1), 2);
        due(x -> x.hanging(0), 1);
        due(x -> x.battle(0), 3);
        due(x -> x.heard(7, 0), 14);
        due(x -> x.count(3), 1);
        granted(x -> x.back(0), 0);
        due(x -> x.count(1), 1);
        due(x -> x.count(2), 0);
        due(x -> x.count(3), 3);
        none(x -> x.fleet(16, 1));
        due(x -> x.hanging(0), 1);
        none(x -> x.hanging(3));
        due(x -> x.battle(0), 0);
        due(x -> x.heard(7, 0), 0);
        due(x -> x.right(), 0);
        due(x -> x.guards(1), 4);
        granted(x -> x.door(2, 1, 3, 1), 1);
        due(x -> x.of(1, 6), 0);
        due(x -> x.of(1, 4), 3);
        granted(x -> x.foe(1), 0);
        due(x -> x.battle(0), 1);
    }

    private static void imagesOfEachCell() {
        says("Terms IV", "BACK to one all that it keeps is as it was then (IMAGES stay).");
        fresh();
        for (int k : upTo(2)) {
            for (int c : upTo(25)) {
                does(x -> x.put(c, 0, 3 * c + k));
                does(x -> x.put(c, 1, (c + k) % 5));
            }
            does(x -> x.image(k));
        }
        for (int c : upTo(25)) {
            does(x -> x.put(c, 0, 99));
            does(x -> x.put(c, 1, 0));
        }
        for (int k : upTo(2)) {
            granted(x -> x.back(k), 0);
            for (int c : upTo(25)) {
                due(x -> x.at(c, 0), 3 * c + k);
                due(x -> x.at(c, 1), (c + k) % 5);
            }
        }
    }

    /** Six LAWS in each IMAGE, each of them in FORCE; the paper of SUMMERS has them, too. */
    private static void imagesOfSixLaws() {
        says("Terms IV", "BACK to one all that it keeps is as it was then (IMAGES stay).");
        launched(9);
        does(x -> x.put(0, 0, 99));
        does(x -> x.image(0));
        for (int k = 1; k >= 0; k--) {
            int image = k;
            does(x -> x.back(0));
            for (int l : upTo(6)) rule("slams 0;catches " + (10 * l + 3 + image));
            does(x -> x.image(image));
        }
        for (int k = 1; k >= 0; k--) {
            int image = k;
            granted(x -> x.back(image), 0);
            due(x -> x.count(5), 6);
            due(x -> x.count(13), 5);
            for (int l : upTo(6)) {
                does(x -> x.force(l));
                due(x -> x.asks(0, 0, 0), 10 * l + 3 + image);
                granted(x -> x.summers(0, 1), 0);
                due(x -> x.drawn(0, 1), 10 * l + 3 + image);
            }
        }
    }

    private static void imagesDoNotKeep() {
        says("Terms IV", "IMAGES 0, 1 keep all but the TAPE, FAULT, FOAM, where ORDERS stopped, what can be undone (nothing, behind back()), the latest SUMMERS;");
        launched(5);
        rule("slams 0");
        does(x -> x.fish(0));
        tell("tide;fish 9");
        does(x -> x.orders());
        tell("fits !");
        does(x -> x.law());
        does(x -> x.summers(0, 3));
        does(x -> x.image(0));
        due(x -> x.count(6), 1);
        due(x -> x.stopped(), 1);
        due(x -> x.fault(), 5);
        due(x -> x.drawn(3, 2), 13);
        tell("fish 8;tide");
        does(x -> x.orders());
        tell("!");
        does(x -> x.law());
        does(x -> x.summers(0, 5));
        tell(bytes(255, 255, 255));
        does(x -> x.row());
        tell("tide");
        does(x -> x.fish(0));
        granted(x -> x.back(0), 0);
        due(x -> x.count(7), 4);
        due(x -> x.fault(), 0);
        due(x -> x.foam(), 2);
        due(x -> x.stopped(), 0);
        due(x -> x.count(6), 0);
        refused(x -> x.undo(), -3);
        due(x -> x.drawn(3, 2), 15);
        granted(x -> x.orders(), 1);
        says("Terms IV", "IMAGES 0, 1 keep all but");
        refused(x -> x.image(-1), -1);
        refused(x -> x.image(2), -1);
        refused(x -> x.back(-1), -1);
        refused(x -> x.back(2), -1);
    }

    private static void used() {
        says("What it is", "An object is used for at most 512 calls after it has been made; what later calls answer is free.");
        DoorFleet x = new DoorFleet();
        for (int n = 0; n < 510; n++) {
            int kind = n % 3;
            told("call " + n, kind == 0 ? x.tide() : kind == 1 ? x.count(14) : x.house(0), kind == 0 ? 0 : kind == 1 ? n / 3 + 1 : -1);
        }
        told("call 511", x.count(14), 170);
        told("call 512", x.count(8), 170);
    }
}
