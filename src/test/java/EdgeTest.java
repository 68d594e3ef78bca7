/** Each sentence of promises 1 to 43 that names an edge: both sides of it, and what a refused call leaves. */
public final class EdgeTest extends Edge {
    public static void main(String[] args) {
        newObject();
        house();
        door();
        of();
        ofBarred();
        frame();
        put();
        at();
        asks();
        foe();
        peace();
        terms();
        feed();
        feedBytes();
        end();
        row();
        foam();
        law();
        orders();
        fault();
        stopped();
        force();
        launch();
        sail();
        fish();
        hang();
        tide();
        undo();
        undoEach();
        undoSixteen();
        undoOrders();
        notUndone();
        stillUndone();
        fleet();
        hanging();
        right();
        heard();
        knock();
        wreck();
        search();
        afloat();
        guards();
        battle();
        share();
        summers();
        drawn();
        image();
        back();
        count();
        refusedCounts();
        status();
        statusOfOthers();
        for (int p = 1; p <= 43; p++) Doc.mustBeNamed("Promise " + p);
        Check.finish("EdgeTest");
    }

    private static void newObject() {
        says("Promise 1", "An island without houses.");
        fresh();
        for (int what : upTo(16)) due(x -> x.count(what), what == 13 ? -1 : 0);
        for (int h : upTo(8)) for (int what : upTo(3)) none(x -> x.frame(h, what));
        for (int d : upTo(8)) for (int what : upTo(9)) none(x -> x.of(d, what));
        for (int c : upTo(25)) for (int what : upTo(3)) due(x -> x.at(c, what), what == 0 ? 10 : 0);
        due(x -> x.right(), 0);
        due(x -> x.guards(0), 0);
        due(x -> x.guards(1), 0);
        due(x -> x.hanging(0), 0);
        due(x -> x.battle(0), 0);
        due(x -> x.fleet(0, 1), 0);
        none(x -> x.fleet(1, 1));
        due(x -> x.heard(0, 6), 0);
        none(x -> x.drawn(0, 2));
        granted(x -> x.force(-1), -1);
        refused(x -> x.undo(), -3);
        refused(x -> x.back(0), -2);
        refused(x -> x.back(1), -2);
    }

    // ---- 2 to 11: what there is ----

    private static void house() {
        says("Promise 2", "A HOUSE: its number. -1; -5.");
        fresh();
        refused(x -> x.house(0), -1);
        for (int h : upTo(8)) {
            granted(x -> x.house(h + 2), h);
            due(x -> x.frame(h, 0), h + 2);
            due(x -> x.count(0), h + 1);
        }
        refused(x -> x.house(9), -5);
        refused(x -> x.house(0), -1);
        refused(x -> x.house(10), -1);
    }

    private static void door() {
        says("Promise 3", "A DOOR that HANGS in its HOME: its number. -1; -2; -3 a DOOR HANGS there; -5.");
        hung(5, 5, 5);
        due(x -> x.of(2, 4), 2);
        due(x -> x.of(2, 2), 2);
        refused(x -> x.door(5, 0, 0, 0), -3);
        refused(x -> x.door(5, 0, 3, 0), -2);
        does(x -> x.launch(0));
        granted(x -> x.door(5, 0, 0, 0), 3);
        refused(x -> x.door(5, 0, 0, 0), -3);
        does(x -> x.launch(1));
        does(x -> x.hang(1, 1));
        refused(x -> x.door(5, 0, 1, 0), -3);
        does(x -> x.launch(1));
        does(x -> x.put(0, 1, 1));
        does(x -> x.tide());
        due(x -> x.of(1, 7), 1);
        granted(x -> x.door(9, 3, 1, 63), 4);
        due(x -> x.of(4, 4), 1);
        due(x -> x.of(4, 6), 0);
        due(x -> x.of(4, 7), 0);
        // LOST ones are DOORS still: the ninth has no room.
        for (int d = 5; d < 8; d++) {
            int number = d;
            does(x -> x.launch(number - 1));
            granted(x -> x.door(5, 0, 1, 0), number);
        }
        refused(x -> x.door(5, 0, 1, 0), -3);
        does(x -> x.launch(7));
        refused(x -> x.door(5, 0, 1, 0), -5);
        refused(x -> x.door(5, 0, 3, 0), -2);
        refused(x -> x.door(10, 0, 1, 0), -1);
    }

    private static void of() {
        says("Promise 4", "Of a DOOR WIDE (what 0), WOOD (1), HOME (2), KNOCKS (3), the HOUSE in which it HANGS (4; NONE), the CELL (5; NONE: not at SEA), CATCH (6), whether LOST (7: 1, 0),");
        fresh(5, 5);
        does(x -> x.door(4, 2, 1, 33));
        ofIs(0, 4, 2, 1, 33, 1, -1, 0, 0, 0);
        does(x -> x.launch(0));
        ofIs(0, 4, 2, 1, 33, -1, 0, 0, 0, 0);
        does(x -> x.fish(0));
        does(x -> x.sail(0, 3));
        ofIs(0, 4, 2, 1, 33, -1, 5, 10, 0, 0);
        does(x -> x.put(5, 1, 4));
        does(x -> x.tide());
        ofIs(0, 4, 2, 1, 33, -1, -1, 10, 1, 0);
        says("Promise 4", "NONE.");
        none(x -> x.of(0, -1));
        none(x -> x.of(0, 9));
        none(x -> x.of(-1, 0));
        none(x -> x.of(1, 0));
        for (int odd : ODD) none(x -> x.of(odd, 0));
        for (int odd : ODD) none(x -> x.of(0, odd));
    }

    private static void ofIs(int door, int... told) {
        for (int what : upTo(told.length)) due(x -> x.of(door, what), told[what]);
    }

    private static void ofBarred() {
        says("Promise 4", "BARRED from launching (8; 0: it does not HANG).");
        hung(5);
        rule("bars");
        due(x -> x.of(0, 8), 1);
        does(x -> x.force(-1));
        due(x -> x.of(0, 8), 0);
        does(x -> x.launch(0));
        does(x -> x.force(0));
        due(x -> x.of(0, 8), 0);
        granted(x -> x.hang(0, 0), 0);
        due(x -> x.of(0, 8), 1);
        does(x -> x.force(-1));
        does(x -> x.launch(0));
        does(x -> x.force(0));
        does(x -> x.put(0, 1, 1));
        does(x -> x.tide());
        due(x -> x.of(0, 8), 0);
    }

    private static void frame() {
        says("Promise 5", "Of a HOUSE SIZE (what 0), its DOOR (1; NONE: OPEN), whether DOOR d FITS (2 + d: 1, 0). NONE.");
        fresh(4, 9);
        none(x -> x.frame(0, 1));
        none(x -> x.frame(0, 2));
        does(x -> x.door(5, 0, 1, 0));
        due(x -> x.frame(0, 0), 4);
        due(x -> x.frame(1, 0), 9);
        none(x -> x.frame(0, 1));
        due(x -> x.frame(1, 1), 0);
        due(x -> x.frame(0, 2), 1);
        due(x -> x.frame(1, 2), 0);
        none(x -> x.frame(0, 3));
        none(x -> x.frame(0, 9));
        none(x -> x.frame(0, 10));
        none(x -> x.frame(0, -1));
        none(x -> x.frame(2, 0));
        none(x -> x.frame(-1, 0));
        for (int odd : ODD) none(x -> x.frame(odd, 0));
        for (int odd : ODD) none(x -> x.frame(0, odd));
        hung(9, 9, 9, 9, 9, 9, 9, 9);
        due(x -> x.frame(7, 9), 1);
        none(x -> x.frame(7, 10));
        // LOST, it FITS as before.
        does(x -> x.launch(0));
        does(x -> x.put(0, 1, 1));
        does(x -> x.tide());
        due(x -> x.frame(3, 2), 1);
        none(x -> x.frame(0, 1));
    }

    private static void put() {
        says("Promise 6", "FISH (what 0), DRIFT (1) of a CELL: what it was. -1.");
        hung(5);
        does(x -> x.launch(0));
        int[] most = {99, 4};
        for (int what : upTo(2)) {
            for (int cell : new int[] {0, 24}) {
                granted(x -> x.put(cell, what, most[what]), what == 0 ? 10 : 0);
                granted(x -> x.put(cell, what, 0), most[what]);
                granted(x -> x.put(cell, what, 1), 0);
                granted(x -> x.put(cell, what, 1), 1);
                does(x -> x.fish(0));
                refused(x -> x.put(cell, what, most[what] + 1), -1);
                refused(x -> x.put(cell, what, -1), -1);
                for (int odd : ODD) refused(x -> x.put(cell, what, odd), -1);
            }
            refused(x -> x.put(-1, what, 0), -1);
            refused(x -> x.put(25, what, 0), -1);
        }
        for (int what : new int[] {-1, 2, Integer.MIN_VALUE, Integer.MAX_VALUE}) refused(x -> x.put(0, what, 0), -1);
        granted(x -> x.put(0, 1, 4), 1);
        refused(x -> x.put(0, 1, 99), -1);
        due(x -> x.at(0, 1), 4);
    }

    private static void at() {
        says("Promise 7", "Of a CELL FISH (what 0), DRIFT (1), how many DOORS are there (2). NONE.");
        launched(5, 5, 5);
        due(x -> x.at(0, 2), 3);
        does(x -> x.sail(0, 2));
        due(x -> x.at(0, 2), 2);
        due(x -> x.at(1, 2), 1);
        does(x -> x.hang(2, 0));
        due(x -> x.at(0, 2), 1);
        does(x -> x.put(0, 1, 1));
        does(x -> x.tide());
        due(x -> x.at(0, 2), 0);
        due(x -> x.at(0, 1), 1);
        due(x -> x.at(0, 0), 11);
        for (int what : upTo(3)) {
            none(x -> x.at(-1, what));
            due(x -> x.at(24, what), what == 0 ? 11 : 0);
            none(x -> x.at(25, what));
        }
        none(x -> x.at(0, -1));
        none(x -> x.at(0, 3));
        for (int odd : ODD) none(x -> x.at(odd, 0));
        for (int odd : ODD) none(x -> x.at(0, odd));
        hung(5, 5, 5, 5, 5, 5, 5, 5);
        for (int d : upTo(8)) does(x -> x.launch(d));
        due(x -> x.at(0, 2), 8);
    }

    private static void asks() {
        says("Promise 8", "Of a DOOR, as if it were in a CELL, what it CATCHES (what 0), in how many of ten it is SLAMMED (1). NONE.");
        hung(5, 3);
        does(x -> x.put(24, 0, 14));
        due(x -> x.asks(0, 24, 0), 14);
        due(x -> x.asks(1, 24, 0), 9);
        due(x -> x.asks(0, 0, 0), 10);
        due(x -> x.asks(0, 24, 1), 1);
        none(x -> x.asks(0, -1, 0));
        none(x -> x.asks(0, 25, 0));
        none(x -> x.asks(-1, 0, 0));
        none(x -> x.asks(2, 0, 0));
        none(x -> x.asks(0, 0, -1));
        none(x -> x.asks(0, 0, 2));
        for (int odd : ODD) {
            none(x -> x.asks(odd, 0, 0));
            none(x -> x.asks(0, odd, 1));
            none(x -> x.asks(0, 0, odd));
        }
        rule("catches cell;slams cell/5");
        due(x -> x.asks(0, 7, 0), 7);
        due(x -> x.asks(0, 7, 1), 1);
        does(x -> x.launch(0));
        due(x -> x.asks(0, 24, 1), 4);
        due(x -> x.asks(0, 0, 0), 0);
        does(x -> x.put(0, 1, 1));
        does(x -> x.tide());
        due(x -> x.asks(0, 9, 0), 9);
        due(x -> x.of(0, 6), 0);
    }

    private static void foe() {
        says("Promise 9", "A FOE: its number. -1; -5.");
        fresh();
        refused(x -> x.foe(0), -1);
        refused(x -> x.foe(10), -1);
        for (int f : upTo(8)) {
            granted(x -> x.foe(f + 2), f);
            due(x -> x.count(2), f + 1);
        }
        refused(x -> x.foe(1), -5);
        refused(x -> x.foe(0), -1);
    }

    private static void peace() {
        says("Promise 10", "FOES are none then: how many there were.");
        hung(9);
        due(x -> x.peace(), 0);
        for (int f : upTo(8)) does(x -> x.foe(f + 1));
        due(x -> x.battle(0), 1);
        refused(x -> x.foe(1), -5);
        due(x -> x.peace(), 8);
        due(x -> x.status(), -5);
        due(x -> x.count(2), 0);
        due(x -> x.battle(0), 0);
        due(x -> x.battle(1), 100);
        due(x -> x.peace(), 0);
        granted(x -> x.foe(9), 0);
        due(x -> x.battle(0), 0);
    }

    private static void terms() {
        says("Promise 11", "A TERM: what it was. -1.");
        hung(5);
        int[] most = {999, 9};
        for (int what : upTo(2)) {
            granted(x -> x.terms(what, 3), 0);
            granted(x -> x.terms(what, most[what]), 3);
            due(x -> x.count(14 + what), most[what]);
            due(x -> x.count(15 - what), what == 0 ? 0 : 999);
            does(x -> x.launch(0));
            refused(x -> x.terms(what, most[what] + 1), -1);
            refused(x -> x.terms(what, -1), -1);
            does(x -> x.hang(0, 0));
        }
        for (int what : new int[] {-1, 2, 14, Integer.MIN_VALUE, Integer.MAX_VALUE}) refused(x -> x.terms(what, 1), -1);
        refused(x -> x.terms(1, 10), -1);
        granted(x -> x.terms(0, 10), 999);
    }

    // ---- 12 to 20: texts ----

    private static void feed() {
        says("Promise 12", "how many it has. NONE, if there would be more than 400.");
        fresh();
        for (int n : upTo(20)) due(x -> x.feed(0, 0, 0, 0, 0), 20 * n + 20);
        none(x -> x.feed(0, 0, 0, 0, 0));
        for (int more : new int[] {399, 390, 381}) {
            due(x -> x.end(more), more);
            none(x -> x.feed(1, 2, 3, 4, 5));
            due(x -> x.count(7), more);
        }
        due(x -> x.end(380), 380);
        due(x -> x.feed(0, 0, 0, 0, 0), 400);
        none(x -> x.feed(0, 0, 0, 0, 0));
        due(x -> x.end(0), 0);
        due(x -> x.feed(0, 0, 0, 0, 0), 20);
    }

    private static void feedBytes() {
        says("Promise 12", "Twenty bytes come behind the TAPE, four of each number, the highest first:");
        fresh();
        does(x -> x.feed(0x01020304, 0x05000600, 0x07010802, 0x0b030c04, 0x0d000e01));
        due(x -> x.row(), 10);
        int[] fish = {1, 3, 5, 6, 7, 8, 11, 12, 13, 14};
        int[] drift = {2, 4, 0, 0, 1, 2, 3, 4, 0, 1};
        for (int c : upTo(10)) {
            due(x -> x.at(c, 0), fish[c]);
            due(x -> x.at(c, 1), drift[c]);
        }
        due(x -> x.at(10, 0), 10);
        // Bytes above 127, in each place.
        for (int n : upTo(4)) {
            fresh();
            int number = 0x63046304 | 0x80 << 8 * n;
            does(x -> x.feed(number, 0, 0, 0, 0));
            does(x -> x.end(4));
            granted(x -> x.row(), 1);
            due(x -> x.foam(), 1);
        }
        // Behind what there is, wherever that ends.
        fresh();
        does(x -> x.feed(0x09010902, 0x08010802, 0, 0, 0));
        does(x -> x.end(6));
        due(x -> x.feed(0x07030704, 0, 0, 0, 0), 26);
        granted(x -> x.row(), 13);
        int[] behind = {9, 9, 8, 7, 7, 0};
        for (int c : upTo(6)) due(x -> x.at(c, 0), behind[c]);
        // The last twenty of 400 come in their places.
        fresh();
        tell("fits" + " ".repeat(376));
        due(x -> x.feed(0x20202020, 0x20202020, 0x20202020, 0x20202020, 0x20202021), 400);
        unread(x -> x.law(), -6, 399, -1);
    }

    private static void end() {
        says("Promise 13", "The TAPE has its first n bytes alone: n. NONE, if it has not so many, or n is below 0.");
        fresh();
        due(x -> x.end(0), 0);
        none(x -> x.end(1));
        none(x -> x.end(-1));
        does(x -> x.feed(0x01010101, 0x02020202, 0x03030303, 0, 0));
        none(x -> x.end(21));
        none(x -> x.end(-1));
        for (int odd : ODD) none(x -> x.end(odd));
        due(x -> x.end(20), 20);
        due(x -> x.end(4), 4);
        none(x -> x.end(5));
        due(x -> x.count(7), 4);
        granted(x -> x.row(), 2);
        due(x -> x.at(2, 0), 10);
        for (int n = 0; n < 20; n++) does(x -> x.feed(0, 0, 0, 0, 0));
        none(x -> x.end(401));
        due(x -> x.end(400), 400);
        due(x -> x.end(399), 399);
        due(x -> x.end(0), 0);
        none(x -> x.end(1));
        unread(x -> x.row(), -6, -1, -1);
    }

    private static void row() {
        says("Promise 14", "A ROW, the TAPE is empty then: how many CELLS were told. -6 the TAPE is empty.");
        hung(5);
        does(x -> x.launch(0));
        unread(x -> x.row(), -6, -1, -1);
        due(x -> x.count(6), 1);
        tell(bytes(3, 3));
        granted(x -> x.row(), 1);
        due(x -> x.count(7), 0);
        unread(x -> x.row(), -6, -1, -1);
        tell(bytes(200));
        granted(x -> x.row(), 0);
        due(x -> x.count(7), 0);
        tell("fits");
        granted(x -> x.row(), 0);
        tell(bytes(99, 4).repeat(25));
        granted(x -> x.row(), 25);
        tell(bytes(99, 4).repeat(200));
        granted(x -> x.row(), 25);
        due(x -> x.count(7), 0);
        tell(" ");
        granted(x -> x.row(), 0);
    }

    private static void foam() {
        says("Promise 15", "How much FOAM the latest row() had that was not REFUSED (0 ahead of any).");
        fresh();
        due(x -> x.foam(), 0);
        unread(x -> x.row(), -6, -1, -1);
        due(x -> x.foam(), 0);
        int[] limits = {100, 5};
        for (int place : upTo(2)) {
            tell(place == 0 ? bytes(limits[0] - 1, 0) : bytes(0, limits[1] - 1));
            granted(x -> x.row(), 1);
            due(x -> x.foam(), 0);
            tell(place == 0 ? bytes(limits[0], 0) : bytes(0, limits[1]));
            granted(x -> x.row(), 0);
            due(x -> x.foam(), 1);
            unread(x -> x.row(), -6, -1, -1);
            due(x -> x.foam(), 1);
        }
        tell(bytes(0, 0, 0));
        granted(x -> x.row(), 1);
        due(x -> x.foam(), 1);
        tell(bytes(0, 0).repeat(25) + bytes(0));
        granted(x -> x.row(), 25);
        due(x -> x.foam(), 1);
        tell(bytes(255, 255).repeat(200));
        granted(x -> x.row(), 0);
        due(x -> x.foam(), 200);
        tell(bytes(0).repeat(399));
        granted(x -> x.row(), 25);
        due(x -> x.foam(), 175);
    }

    private static void law() {
        says("Promise 16", "The TAPE, which is empty then, becomes a LAW: its number.");
        hung(5);
        tell("slams 3");
        granted(x -> x.law(), 0);
        due(x -> x.count(7), 0);
        due(x -> x.asks(0, 0, 1), 1);
        says("Promise 16", "-6 (blanks alone: FAULT at the end).");
        unread(x -> x.law(), -6, 0, -1);
        tell("   ");
        unread(x -> x.law(), -6, 3, -1);
        tell(" ".repeat(400));
        unread(x -> x.law(), -6, 400, -1);
        tell("slams");
        unread(x -> x.law(), -6, 5, -1);
        says("Promise 16", "-5 (ahead of reading it; the TAPE is empty then, too);");
        for (int l = 1; l < 6; l++) {
            int number = l;
            tell("slams 3");
            granted(x -> x.law(), number);
        }
        tell("slams 4");
        unread(x -> x.law(), -5, -1, -1);
        tell("slams !");
        unread(x -> x.law(), -5, -1, -1);
        unread(x -> x.law(), -5, -1, -1);
        tell("tide !");
        unread(x -> x.orders(), -6, 5, -1);
        tell("slams 4");
        unread(x -> x.law(), -5, 5, -1);
        due(x -> x.count(5), 6);
    }

    private static void orders() {
        says("Promise 17", "ORDERS, the TAPE is empty then: how many were run. -3 one can't be; -6 (as for law()).");
        hung(5);
        tell("tide;tide if 1=2;tide times 2");
        granted(x -> x.orders(), 3);
        due(x -> x.count(7), 0);
        tell("tide if 1=2");
        granted(x -> x.orders(), 0);
        due(x -> x.count(7), 0);
        due(x -> x.count(6), 3);
        tell("tide;fish 0");
        unread(x -> x.orders(), -3, -1, 1);
        unread(x -> x.orders(), -6, 0, -1);
        tell("  ");
        unread(x -> x.orders(), -6, 2, -1);
        tell(" ".repeat(400));
        unread(x -> x.orders(), -6, 400, -1);
        tell("tide;fish");
        unread(x -> x.orders(), -6, 9, -1);
        due(x -> x.count(14), 3);
    }

    private static void fault() {
        says("Promise 18", "FAULT of the latest law(), orders() that read a TEXT: its place; NONE without.");
        fresh();
        none(x -> x.fault());
        tell("fits;");
        unread(x -> x.law(), -6, 5, -1);
        tell("tide");
        granted(x -> x.orders(), 1);
        none(x -> x.fault());
        tell("!");
        unread(x -> x.orders(), -6, 0, -1);
        due(x -> x.fault(), 0);
        tell(bytes(1, 1));
        granted(x -> x.row(), 1);
        due(x -> x.fault(), 0);
        tell("fish 0");
        unread(x -> x.orders(), -3, -1, 0);
        tell(" tide x");
        unread(x -> x.orders(), -6, 6, -1);
        tell("fits");
        granted(x -> x.law(), 0);
        none(x -> x.fault());
        tell("fits" + " ".repeat(395) + "!");
        unread(x -> x.law(), -6, 399, -1);
        for (int l = 1; l < 6; l++) rule("fits");
        tell("x");
        unread(x -> x.orders(), -6, 0, -1);
        tell("  x");
        unread(x -> x.law(), -5, 0, -1);
    }

    private static void stopped() {
        says("Promise 19", "Which CLAUSE (0 on) of the latest orders() could not be. NONE (that was done, or REFUSED by -6; ahead of any).");
        hung(5);
        none(x -> x.stopped());
        for (int c : upTo(12)) {
            tell("tide;".repeat(c) + "fish 0" + ";tide".repeat(11 - c));
            unread(x -> x.orders(), -3, -1, c);
        }
        due(x -> x.stopped(), 11);
        unread(x -> x.law(), -6, 0, 11);
        unread(x -> x.row(), -6, 0, 11);
        tell("tide");
        granted(x -> x.orders(), 1);
        none(x -> x.stopped());
        tell("fish 0");
        unread(x -> x.orders(), -3, -1, 0);
        tell("fish 0;");
        unread(x -> x.orders(), -6, 7, -1);
        tell("tide if 1=2;tide times 4;launch 0 times 2");
        unread(x -> x.orders(), -3, -1, 2);
        refused(x -> x.fish(0), -3);
        due(x -> x.stopped(), 2);
    }

    private static void force() {
        says("Promise 20", "A LAW is in FORCE (NONE: none): which was. -2.");
        hung(5);
        refused(x -> x.force(0), -2);
        granted(x -> x.force(-1), -1);
        tell("slams 3");
        does(x -> x.law());
        granted(x -> x.force(0), -1);
        granted(x -> x.force(0), 0);
        refused(x -> x.force(1), -2);
        refused(x -> x.force(-2), -2);
        refused(x -> x.force(6), -2);
        for (int odd : ODD) refused(x -> x.force(odd), -2);
        due(x -> x.count(13), 0);
        granted(x -> x.force(-1), 0);
        granted(x -> x.force(-1), -1);
        does(x -> x.launch(0));
        granted(x -> x.force(0), -1);
        due(x -> x.count(6), 1);
    }

    // ---- 21 to 26: deeds ----

    private static void launch() {
        says("Promise 21", "To LAUNCH: 0. -2; -3.");
        hung(5, 5);
        does(x -> x.launch(1));
        refused(x -> x.launch(-1), -2);
        refused(x -> x.launch(2), -2);
        refused(x -> x.launch(8), -2);
        for (int odd : ODD) refused(x -> x.launch(odd), -2);
        refused(x -> x.launch(1), -3);
        granted(x -> x.launch(0), 0);
        due(x -> x.count(6), 2);
    }

    private static void sail() {
        says("Promise 22", "To SAIL: the CELL then. -1; -2; -3.");
        hung(5, 5);
        does(x -> x.launch(0));
        refused(x -> x.sail(0, 0), -1);
        refused(x -> x.sail(0, 5), -1);
        refused(x -> x.sail(0, -1), -1);
        for (int odd : ODD) refused(x -> x.sail(0, odd), -1);
        refused(x -> x.sail(-1, 0), -1);
        refused(x -> x.sail(-1, 1), -2);
        refused(x -> x.sail(2, 4), -2);
        for (int odd : ODD) refused(x -> x.sail(odd, 2), -2);
        refused(x -> x.sail(1, 2), -3);
        refused(x -> x.sail(0, 1), -3);
        granted(x -> x.sail(0, 2), 1);
        granted(x -> x.sail(0, 3), 6);
        granted(x -> x.sail(0, 4), 5);
        granted(x -> x.sail(0, 1), 0);
    }

    private static void fish() {
        says("Promise 23", "To FISH: what it CATCHES. -2; -3 not at SEA.");
        hung(5, 5);
        refused(x -> x.fish(-1), -2);
        refused(x -> x.fish(2), -2);
        for (int odd : ODD) refused(x -> x.fish(odd), -2);
        refused(x -> x.fish(0), -3);
        does(x -> x.launch(0));
        granted(x -> x.fish(0), 10);
        granted(x -> x.fish(0), 0);
        due(x -> x.count(6), 3);
        does(x -> x.put(0, 1, 4));
        does(x -> x.tide());
        refused(x -> x.fish(0), -3);
    }

    private static void hang() {
        says("Promise 24", "To HANG: the CATCH. -2; -3.");
        hung(5, 5, 8);
        does(x -> x.launch(0));
        refused(x -> x.hang(0, -1), -2);
        refused(x -> x.hang(0, 3), -2);
        refused(x -> x.hang(-1, 0), -2);
        refused(x -> x.hang(3, 0), -2);
        for (int odd : ODD) refused(x -> x.hang(0, odd), -2);
        for (int odd : ODD) refused(x -> x.hang(odd, 0), -2);
        refused(x -> x.hang(0, 1), -3);
        refused(x -> x.hang(1, 0), -3);
        refused(x -> x.hang(1, 1), -3);
        does(x -> x.launch(2));
        refused(x -> x.hang(0, 2), -3);
        rule("catches 99");
        for (int n = 0; n < 11; n++) {
            does(x -> x.put(0, 0, 99));
            does(x -> x.fish(0));
        }
        granted(x -> x.hang(0, 0), 999);
        due(x -> x.of(0, 6), 0);
        refused(x -> x.hang(0, 0), -3);
    }

    private static void tide() {
        says("Promise 25", "A TIDE: how many DOORS went over the edge. -3.");
        hung(5, 5, 5, 5, 5, 5, 5, 5);
        granted(x -> x.tide(), 0);
        for (int d : upTo(8)) does(x -> x.launch(d));
        does(x -> x.sail(7, 3));
        does(x -> x.put(0, 1, 1));
        does(x -> x.put(5, 1, 4));
        granted(x -> x.tide(), 8);
        granted(x -> x.tide(), 0);
        does(x -> x.terms(0, 999));
        refused(x -> x.tide(), -3);
        does(x -> x.terms(0, 998));
        granted(x -> x.tide(), 0);
        refused(x -> x.tide(), -3);
    }

    private static void undo() {
        says("Promise 26", "-3 there is none");
        hung(5);
        refused(x -> x.undo(), -3);
        does(x -> x.launch(0));
        granted(x -> x.undo(), 0);
        refused(x -> x.undo(), -3);
        does(x -> x.launch(0));
        does(x -> x.image(0));
        does(x -> x.back(0));
        refused(x -> x.undo(), -3);
        // Undone, it can be done again, and nothing is left of what was undone.
        does(x -> x.fish(0));
        granted(x -> x.undo(), 2);
        does(x -> x.sail(0, 2));
        due(x -> x.count(6), 1);
        granted(x -> x.undo(), 1);
        refused(x -> x.undo(), -3);
    }

    private static void undoEach() {
        says("Promise 26", "The latest launch(), sail(), fish(), hang(), tide()");
        hung(5);
        does(x -> x.launch(0));
        does(x -> x.sail(0, 2));
        does(x -> x.fish(0));
        does(x -> x.sail(0, 4));
        does(x -> x.hang(0, 0));
        does(x -> x.tide());
        due(x -> x.count(6), 6);
        says("Promise 26", "is undone: 0 .. 4.");
        granted(x -> x.undo(), 4);
        due(x -> x.count(14), 0);
        due(x -> x.at(24, 0), 10);
        granted(x -> x.undo(), 3);
        due(x -> x.of(0, 5), 0);
        due(x -> x.of(0, 4), -1);
        due(x -> x.of(0, 6), 10);
        due(x -> x.count(3), 1);
        granted(x -> x.undo(), 1);
        due(x -> x.of(0, 5), 1);
        granted(x -> x.undo(), 2);
        due(x -> x.of(0, 6), 0);
        due(x -> x.at(1, 0), 10);
        granted(x -> x.undo(), 1);
        due(x -> x.of(0, 5), 0);
        granted(x -> x.undo(), 0);
        due(x -> x.of(0, 4), 0);
        due(x -> x.of(0, 5), -1);
        refused(x -> x.undo(), -3);
        // CATCH of 999 that took more is what it was.
        launched(5);
        rule("catches 99");
        for (int n = 0; n < 10; n++) {
            does(x -> x.put(0, 0, 99));
            does(x -> x.fish(0));
        }
        does(x -> x.put(0, 0, 99));
        granted(x -> x.fish(0), 99);
        due(x -> x.of(0, 6), 999);
        granted(x -> x.undo(), 2);
        due(x -> x.of(0, 6), 990);
        due(x -> x.at(0, 0), 99);
        // LOST by a TIDE is at SEA again; 99 FISH are not 98.
        does(x -> x.put(0, 1, 1));
        does(x -> x.tide());
        due(x -> x.count(4), 1);
        granted(x -> x.undo(), 4);
        due(x -> x.count(4), 0);
        due(x -> x.of(0, 5), 0);
        due(x -> x.at(0, 0), 99);
    }

    private static void undoSixteen() {
        says("Promise 26", "16 are kept");
        hung(5);
        for (int n = 1; n <= 18; n++) {
            int kept = Math.min(n, 16);
            does(x -> x.tide());
            due(x -> x.count(6), kept);
        }
        for (int n = 0; n < 16; n++) granted(x -> x.undo(), 4);
        due(x -> x.count(14), 2);
        due(x -> x.at(0, 0), 12);
        refused(x -> x.undo(), -3);
        // The seventeenth ahead is gone, be it of another kind.
        does(x -> x.launch(0));
        for (int n = 0; n < 15; n++) does(x -> x.tide());
        due(x -> x.count(6), 16);
        does(x -> x.fish(0));
        due(x -> x.count(6), 16);
        granted(x -> x.undo(), 2);
        for (int n = 0; n < 15; n++) granted(x -> x.undo(), 4);
        refused(x -> x.undo(), -3);
        due(x -> x.of(0, 5), 0);
        due(x -> x.count(14), 2);
    }

    private static void undoOrders() {
        says("Promise 26", "(by ORDERS, too;");
        hung(5);
        tell("launch 0;sail 0 by 3;fish 0;tide if 1=2;sail 0 by 1;hang 0 in 0;tide");
        granted(x -> x.orders(), 6);
        due(x -> x.count(6), 6);
        int[] kinds = {4, 3, 1, 2, 1, 0};
        for (int kind : kinds) granted(x -> x.undo(), kind);
        refused(x -> x.undo(), -3);
        tell("launch 0;sail 0 by 2 times 3;sail 0 by 4 times 3;tide times 10");
        granted(x -> x.orders(), 17);
        due(x -> x.count(6), 16);
        for (int n = 0; n < 10; n++) granted(x -> x.undo(), 4);
        for (int n = 0; n < 6; n++) granted(x -> x.undo(), 1);
        refused(x -> x.undo(), -3);
        due(x -> x.of(0, 5), 0);
        // What was done by calls ahead of ORDERS that can't be can be undone still.
        does(x -> x.fish(0));
        does(x -> x.tide());
        tell("tide times 20;fish 0;launch 0");
        unread(x -> x.orders(), -3, -1, 2);
        granted(x -> x.undo(), 4);
        granted(x -> x.undo(), 2);
        refused(x -> x.undo(), -3);
    }

    private static void notUndone() {
        says("Promise 26", "(nothing that was ahead of a door(), put(), terms(), row() that was not REFUSED can be undone).");
        Call[] ends = {x -> x.door(5, 0, 1, 0), x -> x.put(0, 0, 10), x -> x.put(0, 1, 0), x -> x.terms(0, 0),
            x -> x.terms(1, 0), x -> {
                Check.tell(x, "!");
                return x.row();
            }, x -> {
                Check.tell(x, bytes(10, 0));
                return x.row();
            }};
        for (Call end : ends) {
            hung(5);
            does(x -> x.house(5));
            does(x -> x.launch(0));
            does(x -> x.fish(0));
            does(end);
            due(x -> x.count(6), 0);
            refused(x -> x.undo(), -3);
            does(x -> x.sail(0, 2));
            due(x -> x.count(6), 1);
            granted(x -> x.undo(), 1);
            refused(x -> x.undo(), -3);
        }
    }

    /** Other calls, and refused ones, leave what can be undone. */
    private static void stillUndone() {
        says("Promise 26", "(nothing that was ahead of a door(), put(), terms(), row() that was not REFUSED can be undone).");
        hung(5);
        does(x -> x.house(5));
        does(x -> x.launch(0));
        does(x -> x.fish(0));
        refused(x -> x.door(5, 0, 2, 0), -2);
        refused(x -> x.door(0, 0, 1, 0), -1);
        refused(x -> x.put(0, 0, 100), -1);
        refused(x -> x.terms(0, 1000), -1);
        unread(x -> x.row(), -6, -1, -1);
        does(x -> x.house(4));
        does(x -> x.foe(2));
        does(x -> x.peace());
        rule("slams 0");
        does(x -> x.summers(0, 3));
        does(x -> x.image(1));
        refused(x -> x.back(0), -2);
        does(x -> x.feed(0, 0, 0, 0, 0));
        does(x -> x.end(0));
        due(x -> x.count(6), 2);
        granted(x -> x.undo(), 2);
        granted(x -> x.undo(), 0);
        refused(x -> x.undo(), -3);
        due(x -> x.count(0), 3);
        due(x -> x.count(5), 1);
        due(x -> x.count(13), 0);
        due(x -> x.frame(2, 0), 4);
        due(x -> x.drawn(0, 1), 12);
        granted(x -> x.back(1), 0);
        due(x -> x.of(0, 6), 10);
    }

    // ---- 27 to 37: on paper ----

    private static void fleet() {
        says("Promise 27", "A FLEET for a catch 0 .. 9,999: how many DOORS (what 0), which, as bits (1). NONE (not by all).");
        hung(5, 9);
        for (int what : upTo(2)) {
            none(x -> x.fleet(-1, what));
            due(x -> x.fleet(0, what), 0);
            due(x -> x.fleet(1, what), 1);
            due(x -> x.fleet(15, what), 1);
            due(x -> x.fleet(16, what), what == 0 ? 1 : 2);
            due(x -> x.fleet(27, what), what == 0 ? 1 : 2);
            due(x -> x.fleet(28, what), what == 0 ? 2 : 3);
            due(x -> x.fleet(42, what), what == 0 ? 2 : 3);
            none(x -> x.fleet(43, what));
            none(x -> x.fleet(9999, what));
            none(x -> x.fleet(10_000, what));
            for (int odd : ODD) none(x -> x.fleet(odd, what));
        }
        none(x -> x.fleet(0, -1));
        none(x -> x.fleet(0, 2));
        for (int odd : ODD) none(x -> x.fleet(0, odd));
        hung(9, 9, 9, 9, 9, 9, 9, 9);
        rule("catches 99");
        due(x -> x.fleet(792, 0), 8);
        due(x -> x.fleet(792, 1), 255);
        none(x -> x.fleet(793, 1));
        rule("catches 0");
        due(x -> x.fleet(0, 1), 0);
        none(x -> x.fleet(1, 1));
        rule("catches 1;bars");
        due(x -> x.fleet(0, 1), 0);
        none(x -> x.fleet(1, 0));
    }

    private static void hanging() {
        says("Promise 28", "HANGING: how many HANG (what 0), in their HOMES (1), the HOUSE of DOOR d (2 + d; 100: none). NONE (LOST, no such DOOR).");
        hung(5, 8);
        due(x -> x.hanging(0), 2);
        due(x -> x.hanging(1), 2);
        due(x -> x.hanging(2), 0);
        due(x -> x.hanging(3), 1);
        none(x -> x.hanging(4));
        none(x -> x.hanging(-1));
        for (int odd : ODD) none(x -> x.hanging(odd));
        rule("fits if 1=2");
        due(x -> x.hanging(0), 0);
        due(x -> x.hanging(1), 0);
        due(x -> x.hanging(2), 100);
        does(x -> x.put(0, 1, 1));
        does(x -> x.launch(0));
        due(x -> x.hanging(2), 100);
        does(x -> x.tide());
        none(x -> x.hanging(2));
        due(x -> x.hanging(3), 100);
        hung(5, 5, 5, 5, 5, 5, 5, 5);
        due(x -> x.hanging(0), 8);
        due(x -> x.hanging(1), 8);
        due(x -> x.hanging(9), 7);
        none(x -> x.hanging(10));
    }

    private static void right() {
        says("Promise 29", "RIGHT: how many swaps. NONE (two of them have one HOME).");
        fresh(5, 5, 5);
        due(x -> x.right(), 0);
        does(x -> x.door(5, 0, 0, 0));
        due(x -> x.right(), 0);
        does(x -> x.launch(0));
        due(x -> x.right(), 0);
        does(x -> x.door(5, 0, 0, 0));
        due(x -> x.right(), 0);
        does(x -> x.hang(0, 2));
        none(x -> x.right());
        does(x -> x.launch(1));
        due(x -> x.right(), 1);
        does(x -> x.put(0, 1, 1));
        does(x -> x.tide());
        due(x -> x.right(), 1);
        does(x -> x.door(5, 0, 1, 0));
        due(x -> x.right(), 1);
        does(x -> x.put(0, 1, 0));
        does(x -> x.launch(2));
        does(x -> x.hang(2, 0));
        due(x -> x.right(), 2);
        // Each HOUSE as the one HOME of two.
        for (int home : upTo(8)) {
            int other = (home + 3) % 8;
            fresh(5, 5, 5, 5, 5, 5, 5, 5);
            does(x -> x.door(5, 0, home, 0));
            does(x -> x.launch(0));
            does(x -> x.hang(0, other));
            due(x -> x.right(), 1);
            does(x -> x.door(5, 0, home, 0));
            none(x -> x.right());
        }
    }

    private static void heard() {
        says("Promise 30", "HEARD, k 0 .. 6: DOORS, as bits. NONE.");
        fresh(5, 5);
        does(x -> x.door(5, 0, 0, 0));
        does(x -> x.door(5, 0, 1, 63));
        due(x -> x.heard(0, 0), 1);
        due(x -> x.heard(63, 0), 2);
        due(x -> x.heard(0, 5), 1);
        due(x -> x.heard(0, 6), 3);
        due(x -> x.heard(63, 6), 3);
        due(x -> x.heard(7, 2), 0);
        due(x -> x.heard(7, 3), 3);
        for (int k : upTo(7)) {
            none(x -> x.heard(-1, k));
            none(x -> x.heard(64, k));
        }
        none(x -> x.heard(0, -1));
        none(x -> x.heard(0, 7));
        for (int odd : ODD) none(x -> x.heard(odd, 6));
        for (int odd : ODD) none(x -> x.heard(0, odd));
        hung(5, 5, 5, 5, 5, 5, 5, 5);
        due(x -> x.heard(0, 0), 255);
    }

    private static void knock() {
        says("Promise 31", "A NEW KNOCK (what 0), the least number of bits unlike (1; 6 without DOORS). NONE.");
        fresh(5, 5);
        due(x -> x.knock(0), 0);
        due(x -> x.knock(1), 6);
        does(x -> x.door(5, 0, 0, 63));
        due(x -> x.knock(0), 0);
        due(x -> x.knock(1), 6);
        does(x -> x.door(5, 0, 1, 0));
        due(x -> x.knock(0), 7);
        due(x -> x.knock(1), 3);
        none(x -> x.knock(-1));
        none(x -> x.knock(2));
        for (int odd : ODD) none(x -> x.knock(odd));
    }

    private static void wreck() {
        says("Promise 32", "A WRECK behind n TIDES 0 .. 99: CELLS, as bits. NONE.");
        fresh();
        for (int c : upTo(24)) does(x -> x.put(c, 1, c % 5 == 4 ? 3 : 2));
        due(x -> x.wreck(24, 0), 1 << 24);
        due(x -> x.wreck(24, 8), (1 << 25) - 1);
        due(x -> x.wreck(24, 7), (1 << 25) - 1 & ~1);
        due(x -> x.wreck(24, 99), (1 << 25) - 1);
        due(x -> x.wreck(0, 0), 1);
        due(x -> x.wreck(0, 1), 0);
        none(x -> x.wreck(24, -1));
        none(x -> x.wreck(24, 100));
        none(x -> x.wreck(-1, 0));
        none(x -> x.wreck(25, 0));
        for (int odd : ODD) none(x -> x.wreck(odd, 0));
        for (int odd : ODD) none(x -> x.wreck(0, odd));
    }

    private static void search() {
        says("Promise 33", "A SEARCH through told CELLS (bits): steps (i NONE), the i-th CELL. NONE (above 7).");
        fresh();
        int seven = 1 << 24 | 1 << 20 | 1 << 4 | 1 << 12 | 1 << 2 | 1 << 10 | 1;
        due(x -> x.search(seven, -1), 16);
        int[] row = {0, 2, 4, 12, 10, 20, 24};
        for (int i : upTo(7)) due(x -> x.search(seven, i), row[i]);
        none(x -> x.search(seven, 7));
        none(x -> x.search(seven, -2));
        for (int odd : ODD) none(x -> x.search(seven, odd));
        none(x -> x.search(seven | 2, -1));
        none(x -> x.search(seven | 2, 0));
        none(x -> x.search((1 << 25) - 1, -1));
        due(x -> x.search(1 << 24, -1), 8);
        none(x -> x.search(1 << 25, -1));
        none(x -> x.search(1 << 25 | 1, 0));
        none(x -> x.search(-1, -1));
        none(x -> x.search(Integer.MIN_VALUE, -1));
        none(x -> x.search(Integer.MIN_VALUE | 1, 0));
        none(x -> x.search(1 << 30, -1));
        due(x -> x.search(0, -1), 0);
        none(x -> x.search(0, 0));
        none(x -> x.search(0, -2));
    }

    private static void afloat() {
        says("Promise 34", "AFLOAT for n TIDES 0 .. 60. NONE (not at SEA).");
        hung(5, 5);
        none(x -> x.afloat(0, 0));
        none(x -> x.afloat(0, 60));
        does(x -> x.launch(0));
        due(x -> x.afloat(0, 0), 1_000_000_000_000L);
        due(x -> x.afloat(0, 12), 282_429_536_481L);
        due(x -> x.afloat(0, 13), 254_186_582_832L);
        due(x -> x.afloat(0, 14), 228_767_924_548L);
        none(x -> x.afloat(0, -1));
        none(x -> x.afloat(0, 61));
        for (int odd : ODD) none(x -> x.afloat(0, odd));
        for (int odd : ODD) none(x -> x.afloat(odd, 1));
        none(x -> x.afloat(-1, 0));
        none(x -> x.afloat(2, 0));
        none(x -> x.afloat(1, 0));
        does(x -> x.put(0, 1, 4));
        due(x -> x.afloat(0, 0), 1_000_000_000_000L);
        due(x -> x.afloat(0, 1), 0);
        due(x -> x.afloat(0, 60), 0);
        does(x -> x.tide());
        none(x -> x.afloat(0, 0));
        rule("slams 9");
        granted(x -> x.launch(1), 0);
        does(x -> x.put(0, 1, 0));
        due(x -> x.afloat(1, 12), 1);
        due(x -> x.afloat(1, 13), 0);
        due(x -> x.afloat(1, 60), 0);
    }

    private static void guards() {
        says("Promise 35", "GUARDS: how many (what 0), where, as bits (1). NONE.");
        fresh(5, 5, 5, 5);
        due(x -> x.guards(0), 2);
        due(x -> x.guards(1), 5);
        none(x -> x.guards(-1));
        none(x -> x.guards(2));
        for (int odd : ODD) none(x -> x.guards(odd));
        for (int h : upTo(4)) does(x -> x.door(5, 0, h, 0));
        due(x -> x.guards(0), 0);
        due(x -> x.guards(1), 0);
        does(x -> x.launch(3));
        due(x -> x.guards(0), 1);
        due(x -> x.guards(1), 4);
        does(x -> x.launch(0));
        due(x -> x.guards(0), 2);
        due(x -> x.guards(1), 5);
        does(x -> x.launch(1));
        does(x -> x.hang(1, 3));
        due(x -> x.guards(1), 1);
    }

    private static void battle() {
        says("Promise 36", "A BATTLE: how many wins (what 0), the FOE of DOOR d (1 + d; 100: none). NONE (LOST, no such DOOR).");
        hung(5, 8);
        due(x -> x.battle(0), 0);
        due(x -> x.battle(1), 100);
        due(x -> x.battle(2), 100);
        none(x -> x.battle(3));
        none(x -> x.battle(-1));
        for (int odd : ODD) none(x -> x.battle(odd));
        does(x -> x.foe(4));
        due(x -> x.battle(0), 1);
        due(x -> x.battle(1), 0);
        due(x -> x.battle(2), 100);
        does(x -> x.launch(0));
        due(x -> x.battle(1), 0);
        does(x -> x.put(0, 1, 1));
        does(x -> x.tide());
        none(x -> x.battle(1));
        due(x -> x.battle(2), 0);
        hung(2, 2, 2, 2, 2, 2, 2, 2);
        for (int f = 0; f < 8; f++) does(x -> x.foe(1));
        due(x -> x.battle(0), 8);
        due(x -> x.battle(8), 7);
        none(x -> x.battle(9));
    }

    private static void share() {
        says("Promise 37", "The SHARE of a DOOR at SEA in a whale of 0 .. 99,999. NONE.");
        hung(5, 9);
        none(x -> x.share(10, 0));
        does(x -> x.launch(0));
        due(x -> x.share(0, 0), 0);
        due(x -> x.share(99_999, 0), 99_999);
        none(x -> x.share(-1, 0));
        none(x -> x.share(100_000, 0));
        for (int odd : ODD) none(x -> x.share(odd, 0));
        for (int odd : ODD) none(x -> x.share(1, odd));
        none(x -> x.share(10, 1));
        none(x -> x.share(10, 2));
        none(x -> x.share(10, -1));
        does(x -> x.launch(1));
        none(x -> x.share(-1, 0));
        none(x -> x.share(100_000, 1));
        due(x -> x.share(99_999, 0), 35_714);
        due(x -> x.share(99_999, 1), 64_285);
        does(x -> x.put(0, 1, 1));
        does(x -> x.tide());
        none(x -> x.share(10, 0));
    }

    // ---- 38 to 43: summers, images, what is counted ----

    private static void summers() {
        says("Promise 38", "SUMMERS, kept as the latest: how many DOORS were LOST in them. -1.");
        launched(5, 5);
        rule("slams 10");
        does(x -> x.put(0, 0, 99));
        refused(x -> x.summers(-1, 1), -1);
        none(x -> x.drawn(0, 2));
        granted(x -> x.summers(0, 1), 2);
        due(x -> x.drawn(0, 2), 70);
        refused(x -> x.summers(0, 0), -1);
        refused(x -> x.summers(0, 61), -1);
        refused(x -> x.summers(1_000_001, 60), -1);
        due(x -> x.drawn(0, 2), 70);
        rule("slams 0");
        granted(x -> x.summers(1_000_000, 60), 0);
        due(x -> x.drawn(0, 2), 1);
        due(x -> x.drawn(24, 2), 70);
        // Those that were LOST ahead of them are not counted; those over the edge are.
        does(x -> x.sail(1, 2));
        does(x -> x.put(1, 1, 1));
        does(x -> x.tide());
        due(x -> x.count(4), 1);
        granted(x -> x.summers(0, 1), 0);
        does(x -> x.put(0, 1, 1));
        granted(x -> x.summers(0, 1), 1);
        due(x -> x.count(4), 1);
        due(x -> x.of(0, 5), 0);
    }

    private static void drawn() {
        says("Promise 39", "Behind the latest SUMMERS the CELL (what 0; NONE: not at SEA), CATCH (1) of DOOR k, FISH of CELL k (2). NONE.");
        hung(5, 5);
        rule("slams 0");
        does(x -> x.put(0, 1, 2));
        does(x -> x.launch(0));
        for (int what : upTo(3)) none(x -> x.drawn(0, what));
        granted(x -> x.summers(0, 1), 0);
        due(x -> x.drawn(0, 0), 1);
        due(x -> x.drawn(0, 1), 10);
        due(x -> x.drawn(0, 2), 1);
        none(x -> x.drawn(1, 0));
        due(x -> x.drawn(1, 1), 0);
        due(x -> x.drawn(24, 2), 11);
        none(x -> x.drawn(2, 0));
        none(x -> x.drawn(2, 1));
        none(x -> x.drawn(25, 2));
        for (int what : upTo(3)) none(x -> x.drawn(-1, what));
        for (int what : upTo(3)) for (int odd : ODD) none(x -> x.drawn(odd, what));
        none(x -> x.drawn(0, -1));
        none(x -> x.drawn(0, 3));
        for (int odd : ODD) none(x -> x.drawn(0, odd));
        // What comes behind them does not change them.
        does(x -> x.fish(0));
        does(x -> x.put(24, 0, 77));
        does(x -> x.tide());
        due(x -> x.drawn(0, 0), 1);
        due(x -> x.drawn(0, 1), 10);
        due(x -> x.drawn(24, 2), 11);
        granted(x -> x.summers(0, 1), 0);
        due(x -> x.drawn(24, 2), 79);
        // A DOOR that came behind them was not in them; one that an IMAGE has not was.
        hung(5);
        does(x -> x.house(5));
        does(x -> x.image(0));
        does(x -> x.summers(0, 1));
        does(x -> x.door(5, 0, 1, 0));
        due(x -> x.drawn(0, 1), 0);
        none(x -> x.drawn(1, 0));
        none(x -> x.drawn(1, 1));
        does(x -> x.launch(1));
        does(x -> x.summers(0, 1));
        does(x -> x.back(0));
        due(x -> x.count(1), 1);
        due(x -> x.drawn(1, 1), 10);
    }

    private static void image() {
        says("Promise 40", "IMAGE k is kept: 0; -1.");
        hung(5);
        refused(x -> x.image(-1), -1);
        refused(x -> x.image(2), -1);
        for (int odd : ODD) refused(x -> x.image(odd), -1);
        granted(x -> x.image(0), 0);
        refused(x -> x.back(1), -2);
        does(x -> x.launch(0));
        granted(x -> x.image(1), 0);
        due(x -> x.count(6), 1);
        does(x -> x.fish(0));
        granted(x -> x.back(0), 0);
        due(x -> x.of(0, 4), 0);
        granted(x -> x.back(1), 0);
        due(x -> x.of(0, 5), 0);
        due(x -> x.of(0, 6), 0);
        does(x -> x.fish(0));
        granted(x -> x.image(0), 0);
        does(x -> x.back(1));
        granted(x -> x.back(0), 0);
        due(x -> x.of(0, 6), 10);
    }

    private static void back() {
        says("Promise 41", "BACK to IMAGE k: 0. -1; -2 it was not kept.");
        hung(5);
        does(x -> x.launch(0));
        refused(x -> x.back(-1), -1);
        refused(x -> x.back(2), -1);
        for (int odd : ODD) refused(x -> x.back(odd), -1);
        refused(x -> x.back(0), -2);
        refused(x -> x.back(1), -2);
        does(x -> x.image(1));
        refused(x -> x.back(0), -2);
        does(x -> x.fish(0));
        granted(x -> x.back(1), 0);
        due(x -> x.of(0, 6), 0);
        due(x -> x.at(0, 0), 10);
        granted(x -> x.back(1), 0);
        refused(x -> x.back(0), -2);
    }

    private static void count() {
        says("Promise 42", "0 HOUSES, 1 DOORS, 2 FOES, 3 HOUSES that are OPEN, 4 DOORS that are LOST, 5 LAWS, 6 how many can be undone, 7 bytes of the TAPE,");
        hung(5, 5, 5, 5);
        does(x -> x.house(5));
        for (int f = 0; f < 6; f++) does(x -> x.foe(3));
        for (int l = 0; l < 5; l++) rule("fits");
        does(x -> x.force(3));
        does(x -> x.put(0, 1, 1));
        for (int d : upTo(2)) does(x -> x.launch(d));
        does(x -> x.tide());
        does(x -> x.launch(2));
        does(x -> x.feed(0, 0, 0, 0, 0));
        does(x -> x.end(19));
        int[] counts = {5, 4, 6, 4, 2, 5, 4, 19};
        for (int what : upTo(8)) due(x -> x.count(what), counts[what]);
        says("Promise 42", "13 the LAW in FORCE, 14, 15 TERMS 0, 1. NONE for others.");
        due(x -> x.count(13), 3);
        due(x -> x.count(14), 1);
        due(x -> x.count(15), 0);
        does(x -> x.terms(1, 7));
        due(x -> x.count(15), 7);
        does(x -> x.force(-1));
        none(x -> x.count(13));
        none(x -> x.count(-1));
        none(x -> x.count(16));
        for (int odd : ODD) none(x -> x.count(odd));
    }

    private static void refusedCounts() {
        says("Promise 42", "8 .. 12 how many calls were REFUSED by -1, -2, -3, -5, -6 (IMAGES do not keep that),");
        hung(5);
        for (int f = 0; f < 8; f++) does(x -> x.foe(1));
        does(x -> x.image(0));
        Call[] refused = {x -> x.house(0), x -> x.launch(9), x -> x.fish(0), x -> x.foe(1), x -> x.row()};
        int[] by = {-1, -2, -3, -5, -6};
        for (int kind : upTo(5)) {
            for (int n = 0; n <= kind; n++) due(refused[kind], by[kind]);
        }
        for (int kind : upTo(5)) due(x -> x.count(8 + kind), kind + 1);
        granted(x -> x.back(0), 0);
        for (int kind : upTo(5)) due(x -> x.count(8 + kind), kind + 1);
        // ORDERS that can't be are one call; answers of NONE are no refusals.
        tell("tide times 5;fish 0 times 7");
        unread(x -> x.orders(), -3, -1, 1);
        due(x -> x.count(10), 4);
        none(x -> x.of(9, 0));
        none(x -> x.end(1));
        due(x -> x.count(8), 1);
    }

    private static void status() {
        says("Promise 43", "What the latest call of house, door, put, foe, terms, row, law, orders, force, launch, sail, fish, hang, tide, undo, summers, image, back was REFUSED by; 0 if it was not, or ahead of any.");
        fresh();
        due(x -> x.status(), 0);
        does(x -> x.peace());
        none(x -> x.at(-1, 0));
        due(x -> x.status(), 0);
        // Each of them, first REFUSED, then not.
        hung(5, 5);
        for (int f = 0; f < 7; f++) does(x -> x.foe(1));
        Call[] no = {x -> x.house(0), x -> x.door(1, 0, 9, 0), x -> x.put(25, 0, 0), x -> x.foe(0), x -> x.terms(2, 0),
            x -> x.row(), x -> x.law(), x -> x.orders(), x -> x.force(6), x -> x.launch(9), x -> x.sail(0, 5),
            x -> x.fish(1), x -> x.hang(0, 9), x -> x.put(0, 0, 9) * 0 + x.undo(), x -> x.summers(0, 0), x -> x.image(2),
            x -> x.back(1)};
        int[] by = {-1, -2, -1, -1, -1, -6, -6, -6, -2, -2, -1, -3, -2, -3, -1, -1, -2};
        Call[] yes = {x -> x.house(5), x -> x.door(5, 0, 2, 0), x -> x.put(0, 0, 9), x -> x.foe(1), x -> x.terms(1, 1),
            x -> told(x, bytes(1, 1)).row(), x -> told(x, "fits").law(), x -> told(x, "tide").orders(), x -> x.force(0),
            x -> x.launch(0), x -> x.sail(0, 2), x -> x.fish(0), x -> x.sail(0, 4) + x.hang(0, 0), x -> x.tide() + x.undo(),
            x -> x.summers(0, 1), x -> x.image(0), x -> x.back(0)};
        for (int i : upTo(no.length)) {
            due(no[i], by[i]);
            due(x -> x.status(), by[i]);
            does(yes[i]);
            due(x -> x.status(), 0);
        }
        does(x -> x.terms(0, 999));
        refused(x -> x.tide(), -3);
        does(x -> x.terms(0, 0));
        granted(x -> x.tide(), 0);
        refused(x -> x.foe(1), -5);
        due(x -> x.status(), -5);
    }

    private static DoorFleet told(DoorFleet x, String text) {
        Check.tell(x, text);
        return x;
    }

    private static void statusOfOthers() {
        says("Promise 43", "What the latest call of house, door, put, foe, terms, row, law, orders, force, launch, sail, fish, hang, tide, undo, summers, image, back was REFUSED by;");
        hung(5);
        refused(x -> x.launch(1), -2);
        Call[] others = {x -> x.of(0, 0), x -> x.frame(0, 0), x -> x.at(0, 0), x -> x.asks(0, 0, 0), x -> x.peace(),
            x -> x.feed(0, 0, 0, 0, 0), x -> x.end(0), x -> x.foam(), x -> x.fault(), x -> x.stopped(),
            x -> x.fleet(0, 0), x -> x.hanging(0), x -> x.right(), x -> x.heard(0, 0), x -> x.knock(0),
            x -> x.wreck(0, 0), x -> x.search(0, -1), x -> x.afloat(0, 0), x -> x.guards(0), x -> x.battle(0),
            x -> x.share(0, 0), x -> x.drawn(0, 0), x -> x.count(0), x -> x.status(),
            x -> x.of(-1, 0), x -> x.frame(-1, 0), x -> x.at(-1, 0), x -> x.asks(-1, 0, 0), x -> x.end(-1),
            x -> x.fleet(-1, 0), x -> x.hanging(-1), x -> x.heard(-1, 0), x -> x.knock(-1), x -> x.wreck(-1, 0),
            x -> x.search(-1, -1), x -> x.afloat(-1, 0), x -> x.guards(-1), x -> x.battle(-1), x -> x.share(-1, 0),
            x -> x.drawn(-1, 0), x -> x.count(-1)};
        for (Call other : others) {
            does(other);
            due(x -> x.status(), -2);
            due(x -> x.count(9), 1);
            due(x -> x.count(8), 0);
        }
    }
}
