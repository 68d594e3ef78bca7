/** Each promise by itself: ordinary inputs, the edges that the document names, wrong inputs. */
public final class PromiseTest {
    private static DoorFleet x;

    public static void main(String[] args) {
        p01();
        p02();
        p03();
        p04();
        p05();
        p06();
        p07();
        p08();
        p09();
        p10();
        p11();
        p12();
        p13();
        p14();
        p15();
        p16();
        p17();
        p17words();
        p18();
        p19();
        p20();
        p21();
        p22();
        p23();
        p24();
        p25();
        p26();
        p27();
        p28();
        p29();
        p30();
        p31();
        p32();
        p33();
        p34();
        p35();
        p36();
        p37();
        p38();
        p39();
        p40();
        p41();
        p42();
        p43();
        Check.finish("PromiseTest");
    }

    private static void due(String call, long got, long want) {
        Check.due(call, got, want);
    }

    /** An answer that is a refusal: it counts once, and status() tells it. */
    private static void refused(String call, long got, int by) {
        due(call, got, by);
        due(call + ", status", x.status(), by);
    }

    private static void granted(String call, long got, long want) {
        due(call, got, want);
        due(call + ", status", x.status(), 0);
    }

    /** How often it was REFUSED by -1, -2, -3, -5, -6. */
    private static void refusals(String name, int a, int b, int c, int e, int f) {
        due(name + " count(8)", x.count(8), a);
        due(name + " count(9)", x.count(9), b);
        due(name + " count(10)", x.count(10), c);
        due(name + " count(11)", x.count(11), e);
        due(name + " count(12)", x.count(12), f);
    }

    /** HOUSES of these SIZES. */
    private static void fresh(int... sizes) {
        x = new DoorFleet();
        for (int size : sizes) x.house(size);
    }

    /** HOUSES of these SIZES, each with a DOOR as WIDE in it. */
    private static void hung(int... sizes) {
        fresh(sizes);
        for (int h = 0; h < sizes.length; h++) x.door(sizes[h], 0, h, 0);
    }

    private static void p01() {
        fresh();
        int[] counts = {0, 0, 0, 0, 0, 0, 0, 0, 0, 0, 0, 0, 0, -1, 0, 0};
        for (int what = 0; what < counts.length; what++) due("new count " + what, x.count(what), counts[what]);
        for (int c = 0; c < 25; c++) {
            due("new fish", x.at(c, 0), 10);
            due("new drift", x.at(c, 1), 0);
            due("new doors", x.at(c, 2), 0);
        }
        due("new fault", x.fault(), -1);
        due("new stopped", x.stopped(), -1);
        due("new foam", x.foam(), 0);
        due("new status", x.status(), 0);
        due("new drawn", x.drawn(0, 2), -1);
        refused("new undo", x.undo(), -3);
        refused("new back", x.back(0), -2);
    }

    private static void p02() {
        fresh();
        refused("house 0", x.house(0), -1);
        refused("house 10", x.house(10), -1);
        for (int h = 0; h < 8; h++) granted("house", x.house(h + 1), h);
        refused("ninth house", x.house(9), -5);
        refused("ninth house of no size", x.house(10), -1);
        refusals("house", 3, 0, 0, 1, 0);
        due("houses", x.count(0), 8);
        due("open", x.count(3), 8);
    }

    private static void p03() {
        fresh(9, 1);
        refused("wide 0", x.door(0, 0, 0, 0), -1);
        refused("wide 10", x.door(10, 0, 0, 0), -1);
        refused("wood -1", x.door(1, -1, 0, 0), -1);
        refused("wood 4", x.door(1, 4, 0, 0), -1);
        refused("knocks -1", x.door(1, 0, 0, -1), -1);
        refused("knocks 64", x.door(1, 0, 0, 64), -1);
        refused("-1 ahead of -2", x.door(0, 0, 2, 0), -1);
        refused("home 2", x.door(1, 0, 2, 0), -2);
        refused("home -1", x.door(1, 0, -1, 0), -2);
        granted("door", x.door(1, 3, 0, 63), 0);
        refused("a door there", x.door(9, 0, 0, 0), -3);
        granted("door", x.door(9, 0, 1, 0), 1);
        refusals("door", 7, 2, 1, 0, 0);
        for (int d = 2; d < 8; d++) {
            x.launch(d - 1);
            granted("door", x.door(9, 0, 1, 0), d);
        }
        refused("-3 ahead of -5", x.door(9, 0, 1, 0), -3);
        x.launch(7);
        refused("ninth door", x.door(9, 0, 1, 0), -5);
        due("undoable", x.count(6), 1);
        due("doors", x.count(1), 8);
    }

    private static void p04() {
        fresh(4, 5);
        x.door(5, 3, 0, 42);
        int[] told = {5, 3, 0, 42, 0, -1, 0, 0, 0};
        for (int what = 0; what < 9; what++) due("of hung " + what, x.of(0, what), told[what]);
        Check.rule(x, "bars if house = 0 and size = 4 and wide = 5 and cell = 0 - 1 and fish = 0-1");
        due("barred", x.of(0, 8), 1);
        x.force(-1);
        x.launch(0);
        x.force(0);
        due("at sea: not barred", x.of(0, 8), 0);
        due("at sea: house", x.of(0, 4), -1);
        due("at sea: cell", x.of(0, 5), 0);
        x.fish(0);
        due("catch", x.of(0, 6), 10);
        x.put(0, 1, 1);
        x.tide();
        due("lost", x.of(0, 7), 1);
        due("lost: cell", x.of(0, 5), -1);
        due("lost: house", x.of(0, 4), -1);
        due("lost: catch", x.of(0, 6), 10);
        due("of 0 9", x.of(0, 9), -1);
        due("of 0 -1", x.of(0, -1), -1);
        due("of 1", x.of(1, 0), -1);
        due("of -1", x.of(-1, 0), -1);
        due("status", x.status(), 0);
    }

    private static void p05() {
        fresh(4, 9);
        x.door(5, 0, 0, 0);
        due("size", x.frame(1, 0), 9);
        due("door", x.frame(0, 1), 0);
        due("open", x.frame(1, 1), -1);
        due("one apart", x.frame(0, 2), 1);
        due("four apart", x.frame(1, 2), 0);
        due("no such door", x.frame(0, 3), -1);
        due("no such house", x.frame(2, 0), -1);
        due("house -1", x.frame(-1, 0), -1);
        due("what -1", x.frame(0, -1), -1);
        due("what least", x.frame(0, Integer.MIN_VALUE), -1);
        Check.rule(x, "catches 1");
        due("a law without fits", x.frame(0, 2), 1);
        Check.rule(x, "fits if size > 8; fits if house = 5");
        due("not by the law", x.frame(0, 2), 0);
        due("by the law", x.frame(1, 2), 1);
        Check.rule(x, "fits if 1 / 0 = 1");
        due("broken", x.frame(0, 2), 0);
        Check.rule(x, "fits");
        due("all fit", x.frame(1, 2), 1);
    }

    private static void p06() {
        hung(5);
        x.launch(0);
        granted("fish", x.put(24, 0, 99), 10);
        due("undoable", x.count(6), 0);
        granted("fish", x.put(24, 0, 0), 99);
        x.fish(0);
        granted("drift", x.put(24, 1, 4), 0);
        due("undoable", x.count(6), 0);
        granted("drift", x.put(24, 1, 0), 4);
        x.fish(0);
        refused("cell 25", x.put(25, 0, 0), -1);
        refused("cell -1", x.put(-1, 0, 0), -1);
        refused("what 2", x.put(0, 2, 0), -1);
        refused("what -1", x.put(0, -1, 0), -1);
        refused("fish 100", x.put(0, 0, 100), -1);
        refused("fish -1", x.put(0, 0, -1), -1);
        refused("drift 5", x.put(0, 1, 5), -1);
        refused("drift -1", x.put(0, 1, -1), -1);
        refusals("put", 8, 0, 0, 0, 0);
        due("still undoable", x.count(6), 1);
    }

    private static void p07() {
        hung(5, 5);
        x.launch(0);
        due("one door", x.at(0, 2), 1);
        x.launch(1);
        due("two doors", x.at(0, 2), 2);
        x.put(7, 0, 33);
        x.put(7, 1, 3);
        due("fish", x.at(7, 0), 33);
        due("drift", x.at(7, 1), 3);
        due("doors", x.at(7, 2), 0);
        due("what 3", x.at(0, 3), -1);
        due("what -1", x.at(0, -1), -1);
        due("cell 25", x.at(25, 0), -1);
        due("cell -1", x.at(-1, 0), -1);
    }

    private static void p08() {
        hung(5, 3);
        x.put(3, 0, 99);
        due("wide times 3", x.asks(0, 3, 0), 15);
        due("no more than fish", x.asks(0, 4, 0), 10);
        due("one of ten", x.asks(0, 3, 1), 1);
        Check.rule(x, "catches 1; catches wide * 10 if cell = 3; catches 7 if 1 / [wide - 3] = 0; slams fish - 90");
        due("the last that holds", x.asks(0, 3, 0), 7);
        due("a broken one does not", x.asks(1, 3, 0), 30);
        due("else the first", x.asks(1, 4, 0), 1);
        due("slams 9", x.asks(0, 3, 1), 9);
        due("slams: the nearest", x.asks(0, 4, 1), 0);
        Check.rule(x, "catches 0 - 5; slams 11; catches 1000 if cell = 3; catches 5 / 0");
        due("below 0", x.asks(0, 4, 0), 0);
        due("above 99", x.asks(0, 3, 0), 99);
        due("above 10", x.asks(0, 3, 1), 10);
        Check.rule(x, "catches 1 if house = 0-1 and size = 0-1 and door = 1 and home = 1 and wood = 0; bars");
        due("asked without a house", x.asks(1, 3, 0), 1);
        due("without one that holds", x.asks(0, 3, 0), 15);
        due("what 2", x.asks(0, 0, 2), -1);
        due("what -1", x.asks(0, 0, -1), -1);
        due("door 2", x.asks(2, 0, 0), -1);
        due("door -1", x.asks(-1, 0, 0), -1);
        due("cell 25", x.asks(0, 25, 0), -1);
        due("cell -1", x.asks(0, -1, 0), -1);
        Check.rule(x, "catches catch + day * 10 + mood");
        x.terms(0, 2);
        x.terms(1, 3);
        due("day, mood", x.asks(0, 3, 0), 23);
        x.force(-1);
        x.launch(0);
        x.fish(0);
        x.force(3);
        due("catch", x.asks(0, 3, 0), 33);
    }

    private static void p09() {
        fresh();
        refused("foe 0", x.foe(0), -1);
        refused("foe 10", x.foe(10), -1);
        for (int f = 0; f < 8; f++) granted("foe", x.foe(9 - f), f);
        refused("ninth foe", x.foe(1), -5);
        refused("-1 ahead of -5", x.foe(10), -1);
        refusals("foe", 3, 0, 0, 1, 0);
        due("foes", x.count(2), 8);
    }

    private static void p10() {
        fresh();
        due("none", x.peace(), 0);
        x.foe(3);
        x.foe(3);
        x.house(0);
        due("two", x.peace(), 2);
        due("status is of another call", x.status(), -1);
        due("foes", x.count(2), 0);
        granted("the first again", x.foe(1), 0);
    }

    private static void p11() {
        hung(5);
        x.launch(0);
        granted("day", x.terms(0, 999), 0);
        due("undoable", x.count(6), 0);
        granted("day", x.terms(0, 0), 999);
        x.fish(0);
        granted("mood", x.terms(1, 9), 0);
        due("undoable", x.count(6), 0);
        granted("mood", x.terms(1, 4), 9);
        x.fish(0);
        refused("day 1000", x.terms(0, 1000), -1);
        refused("day -1", x.terms(0, -1), -1);
        refused("mood 10", x.terms(1, 10), -1);
        refused("mood -1", x.terms(1, -1), -1);
        refused("what 2", x.terms(2, 0), -1);
        refused("what -1", x.terms(-1, 0), -1);
        due("still undoable", x.count(6), 1);
        due("day", x.count(14), 0);
        due("mood", x.count(15), 4);
        refusals("terms", 6, 0, 0, 0, 0);
    }

    private static void p12() {
        fresh();
        for (int n = 20; n <= 400; n += 20) due("feed", x.feed(1, 2, 3, 4, 5), n);
        due("feed 420", x.feed(0, 0, 0, 0, 0), -1);
        due("bytes", x.count(7), 400);
        x.end(381);
        due("feed 401", x.feed(0, 0, 0, 0, 0), -1);
        x.end(380);
        due("feed 400", x.feed(0, 0, 0, 0, 0), 400);
        refusals("feed", 0, 0, 0, 0, 0);
        x.end(0);
        x.feed(0x01020304, 0x63046400, -1, 0, 0);
        x.end(9);
        due("the highest first", x.row(), 3);
        due("fish 0", x.at(0, 0), 1);
        due("drift 0", x.at(0, 1), 2);
        due("fish 1", x.at(1, 0), 3);
        due("drift 1", x.at(1, 1), 4);
        due("fish 2", x.at(2, 0), 99);
        due("drift 2", x.at(2, 1), 4);
        due("fish 3", x.at(3, 0), 10);
        due("foam", x.foam(), 2);
    }

    private static void p13() {
        fresh();
        due("end 1", x.end(1), -1);
        due("end 0", x.end(0), 0);
        x.feed(0, 0, 0, 0, 0);
        due("end 21", x.end(21), -1);
        due("end -1", x.end(-1), -1);
        due("bytes", x.count(7), 20);
        due("end 20", x.end(20), 20);
        due("end 7", x.end(7), 7);
        due("bytes", x.count(7), 7);
        due("end 8", x.end(8), -1);
        due("feed behind it", x.feed(0, 0, 0, 0, 0), 27);
        due("status", x.status(), 0);
    }

    private static String pairs(int... numbers) {
        StringBuilder text = new StringBuilder();
        for (int n : numbers) text.append((char) n);
        return text.toString();
    }

    private static void p14() {
        hung(5);
        refused("empty", x.row(), -6);
        x.launch(0);
        Check.tell(x, pairs(5, 1, 100, 0, 7, 5, 99, 4, 3));
        granted("row", x.row(), 2);
        due("tape", x.count(7), 0);
        due("undoable", x.count(6), 0);
        due("cell 0", x.at(0, 0), 5);
        due("cell 0", x.at(0, 1), 1);
        due("cell 1 as it was", x.at(1, 0), 10);
        due("cell 2 as it was", x.at(2, 0), 10);
        due("cell 2 as it was", x.at(2, 1), 0);
        due("cell 3", x.at(3, 0), 99);
        due("cell 3", x.at(3, 1), 4);
        due("cell 4 as it was", x.at(4, 0), 10);
        due("foam", x.foam(), 3);
        Check.tell(x, "x");
        granted("foam alone", x.row(), 0);
        x.feed(0, 0, 0, 0, 0);
        x.end(9);
        granted("the bytes behind the end are none", x.row(), 4);
        due("cell 4 as it was", x.at(4, 0), 10);
        due("foam", x.foam(), 1);
        for (int i = 0; i < 20; i++) x.feed(0, 0, 0, 0, 0);
        granted("25 cells", x.row(), 25);
        due("behind cell 24", x.foam(), 175);
        due("fish", x.at(24, 0), 0);
        refusals("row", 0, 0, 0, 0, 1);
    }

    private static void p15() {
        fresh();
        due("ahead of any", x.foam(), 0);
        Check.tell(x, pairs(100, 0, 0, 0));
        x.row();
        due("one", x.foam(), 1);
        x.row();
        due("a refused row leaves it", x.foam(), 1);
        x.image(0);
        Check.tell(x, pairs(0, 0));
        x.row();
        due("none", x.foam(), 0);
        Check.tell(x, pairs(0));
        x.row();
        x.back(0);
        due("images do not keep it", x.foam(), 1);
    }

    /** A TEXT whose FAULT stands where told (-1: none). */
    private static void lawFault(String text, int fault) {
        fresh();
        Check.tell(x, text);
        if (fault < 0) granted("law " + text, x.law(), 0);
        else refused("law " + text, x.law(), -6);
        due("fault of law " + text, x.fault(), fault);
        due("laws " + text, x.count(5), fault < 0 ? 1 : 0);
        due("tape " + text, x.count(7), 0);
    }

    private static void ordersFault(String text, int fault) {
        hung(5);
        int got = Check.orders(x, text);
        due("orders " + text, got == -6 ? 1 : 0, fault < 0 ? 0 : 1);
        due("fault of orders " + text, x.fault(), fault);
        due("tape " + text, x.count(7), 0);
    }

    private static String again(String text, int times, String between) {
        StringBuilder all = new StringBuilder(text);
        for (int i = 1; i < times; i++) all.append(between).append(text);
        return all.toString();
    }

    private static void p16() {
        fresh();
        for (int l = 0; l < 6; l++) granted("law", Check.law(x, "fits"), l);
        due("fault", x.fault(), -1);
        refused("a seventh", Check.law(x, "catches"), -5);
        due("ahead of reading", x.fault(), -1);
        due("tape", x.count(7), 0);
        refused("-5 ahead of -6", x.law(), -5);
        refusals("law", 0, 0, 0, 2, 0);
        lawFault("", 0);
        lawFault("   ", 3);
        lawFault("fits", -1);
        lawFault("fits   ", -1);
        lawFault("  fits;bars", -1);
        lawFault("fits if", 7);
        lawFault("fits if   ", 10);
        lawFault("fits 1", 5);
        lawFault("bars times 2", 5);
        lawFault("fits if" + " ".repeat(393), 400);
        lawFault("!".repeat(400), 0);
        lawFault("fits" + " ".repeat(396), -1);
        lawFault("fits" + " ".repeat(395) + ";", 400);
        lawFault("fits if " + "not ".repeat(97) + "1=1", -1);
        lawFault("slams " + "[".repeat(394), 14);
        lawFault("1".repeat(400), 0);
        lawFault("slams " + "0".repeat(394), -1);
        lawFault("slams " + "0".repeat(390) + "1001", 6);
        lawFault("fits;", 5);
        lawFault("fits;;fits", 5);
        lawFault(";fits", 0);
        lawFault("slams wide*3-[wood+1]%2 if not(wide>1 or wood<2)and home=1", -1);
        lawFault("slams 1000", -1);
        lawFault("slams 0001000", -1);
        lawFault("slams 1001", 6);
        lawFault("slams 99999999999999999999", 6);
        lawFault("slams -1", 6);
        lawFault("slams 1 -", 9);
        lawFault("slams 1 1", 8);
        lawFault("slams wide1", 10);
        lawFault("slams 1wide", 7);
        lawFault("slams (1)", 6);
        lawFault("slams [1)", 8);
        lawFault("slams [1", 8);
        lawFault("slams 1]", 7);
        lawFault("slams open", 6);
        lawFault("slams done", 6);
        lawFault("Slams 1", 0);
        lawFault("slams\t1", 5);
        lawFault("slams 1 if wide", 15);
        lawFault("fits if 1<2<3", 11);
        lawFault("fits if (1+2)<4", 12);
        lawFault("fits if [1<2]", 10);
        lawFault("fits if 1<2 or", 14);
        lawFault("fits if 1<2 not 1<2", 12);
        lawFault("fits if not not not 1<2", -1);
        lawFault("fits if ((1<2)", 14);
        lawFault("fits if (1<2))", 13);
        lawFault("fits if day = mood if 1=1", 19);
        lawFault(again("fits", 12, ";"), -1);
        lawFault(again("fits", 13, ";"), 60);
        lawFault(again("fits", 12, ";") + ";", 60);
        lawFault(again("fits", 12, ";") + "; !", 61);
        lawFault("slams " + again("1", 50, "+"), -1);
        lawFault("slams " + again("1", 51, "+"), 106);
        lawFault("slams " + again("1", 50, "+") + ";slams day", 112);
        lawFault("slams [[[[[[[[1]]]]]]]]", -1);
        lawFault("slams [[[[[[[[[1]]]]]]]]]", 14);
        lawFault("fits if ((((((((1=1))))))))", -1);
        lawFault("fits if (((((((((1=1)))))))))", 16);
        lawFault("fits if ((((((([1]=1)))))))", -1);
        lawFault("fits if (((((((([1]=1))))))))", 16);
        lawFault("fits if (1=1) and (((([[[[1]]]]=1))))", -1);
    }

    private static void p17() {
        hung(5, 5);
        granted("all", Check.orders(x, "launch 0;sail 0 by 1+1;fish 0;sail 0 by 4;hang 0 in 0;tide times 3"), 8);
        due("undoable", x.count(6), 8);
        due("day", x.count(14), 3);
        due("fish", x.at(1, 0), 3);
        due("home", x.of(0, 4), 0);
        refused("none can sail", Check.orders(x, "tide;tide;sail 0 by 2"), -3);
        due("day as it was", x.count(14), 3);
        due("undoable as it was", x.count(6), 8);
        due("stopped", x.stopped(), 2);
        refused("no such door", Check.orders(x, "fish 7"), -3);
        refused("broken", Check.orders(x, "tide;launch 1/0"), -3);
        refused("no drift", Check.orders(x, "launch 0;sail 0 by 5"), -3);
        refused("no such house", Check.orders(x, "launch 0;hang 0 in 2"), -3);
        granted("passed over", Check.orders(x, "fish 7 if day = 99;fish 7 if 1/0 = 0;launch 9 if 1 > 2"), 0);
        due("not stopped", x.stopped(), -1);
        refused("empty", x.orders(), -6);
        refusals("orders", 0, 0, 5, 0, 1);
        granted("if each time", Check.orders(x, "tide times 20 if day < 7"), 4);
        granted("done", Check.orders(x, "tide times 20 if done < 2;tide times 5 if done=2"), 3);
        granted("16 are kept", Check.orders(x, "tide times 20"), 20);
        due("16 are kept", x.count(6), 16);
        x.terms(0, 990);
        refused("not beyond 999", Check.orders(x, "tide times 9;tide"), -3);
        due("day", x.count(14), 990);
        granted("to 999", Check.orders(x, "tide times 9"), 9);
    }

    private static void p17words() {
        hung(5, 5);
        x.put(0, 0, 40);
        due("latest, catch", Check.orders(x, "launch 0;tide if latest=0-1;fish 0;tide if latest=15;"
            + "fish 0;fish 0;tide if catch 0 = 42;tide if latest = 12 + catch 7"), 8);
        due("at, house, open", Check.orders(x, "launch 1 if at 1 = 0-1 and house 1 = 1 and open = 1;"
            + "sail 1 by 2 if at 1=0 and open = 2 and house 1 = 0-1;tide if at 1 = 1 and at 7 = house 7"), 3);
        due("or asks no more", Check.orders(x, "tide if 1=1 or 1/0=1;tide if not(1=2 and 1/0=1)"), 2);
        due("broken all the same", Check.orders(x, "tide if 1/0=1 or 1=1;tide if 1=1 and 1%0=1;tide if not 1/0=1"), 0);
        due("and binds more", Check.orders(x, "tide if 1=1 or 1=1 and 1=2;tide if (1=1 or 1=1) and 1=2"), 1);
        due("from the left", Check.orders(x, "tide if 10-3-2=5 and 100/7/2=7 and 7-2*3=1 and 17%7*2=6"), 1);
        due("cut towards 0", Check.orders(x, "tide if [0-7]/2=0-3 and [0-7]%2=0-1 and 7%[0-2]=1"), 1);
        due("1,000,000,000", Check.orders(x, "tide if 1000*1000*1000>0;tide if 1000*1000*1000+1>0;"
            + "tide if 0-1000*1000*1000<0;tide if 0-1000*1000*1000-1<0"), 2);
    }

    private static void p18() {
        fresh();
        due("ahead of any", x.fault(), -1);
        Check.law(x, "fits if !");
        due("law", x.fault(), 8);
        Check.orders(x, "tide");
        due("none", x.fault(), -1);
        Check.orders(x, "tide !");
        due("orders", x.fault(), 5);
        Check.orders(x, "fish 0");
        due("none, though it stopped", x.fault(), -1);
        x.image(0);
        x.law();
        x.back(0);
        due("images do not keep it", x.fault(), 0);
        ordersFault("launch", 6);
        ordersFault("sail 0 1", 7);
        ordersFault("sail 0 by", 9);
        ordersFault("sail 0 in 1", 7);
        ordersFault("hang 0 by 1", 7);
        ordersFault("hang 0 in 0 times 20 if at 0 = 0", -1);
        ordersFault("hang 0 in 0 if at 0 = 0 times 20", 24);
        ordersFault("tide times 0", 11);
        ordersFault("tide times 21", 11);
        ordersFault("tide times 020", -1);
        ordersFault("tide times 1+1", 12);
        ordersFault("tide times day", 11);
        ordersFault("tide times", 10);
        ordersFault("tide 1", 5);
        ordersFault("fish at 7", -1);
        ordersFault("fish at 8", 8);
        ordersFault("fish at", 7);
        ordersFault("fish house day", 11);
        ordersFault("fish catch [1]", 11);
        ordersFault("fish wide", 5);
        ordersFault("fish fish", 5);
        ordersFault("catches 1", 0);
        ordersFault("", 0);
        ordersFault(" ", 1);
        ordersFault(again("tide", 12, ";"), -1);
        ordersFault(again("tide", 13, ";"), 60);
        ordersFault("fish " + again("at 0", 50, "+") + " times 20", -1);
        ordersFault("fish " + again("at 0", 51, "+"), 255);
        ordersFault("fish " + again("at 0", 50, "+") + "+at 9", 255);
        ordersFault("fish " + again("at 0", 49, "+") + "+at 9", 253);
    }

    private static void p19() {
        hung(5);
        due("ahead of any", x.stopped(), -1);
        Check.orders(x, "tide;fish 0");
        due("the second", x.stopped(), 1);
        Check.law(x, "!");
        due("laws leave it", x.stopped(), 1);
        Check.orders(x, "!");
        due("-6", x.stopped(), -1);
        Check.orders(x, "tide;tide times 3;sail 0 by 1 times 20");
        due("the third", x.stopped(), 2);
        x.image(0);
        Check.orders(x, "fish 0");
        x.back(0);
        due("images do not keep it", x.stopped(), 0);
        Check.orders(x, "tide");
        due("done", x.stopped(), -1);
    }

    private static void p20() {
        fresh();
        granted("none already", x.force(-1), -1);
        refused("no law", x.force(0), -2);
        Check.law(x, "fits");
        Check.law(x, "bars");
        due("a law is not in force by itself", x.count(13), -1);
        granted("first", x.force(0), -1);
        granted("second", x.force(1), 0);
        refused("third", x.force(2), -2);
        refused("-2", x.force(-2), -2);
        due("second still", x.count(13), 1);
        granted("none", x.force(-1), 1);
        refusals("force", 0, 3, 0, 0, 0);
    }

    private static void p21() {
        hung(5, 6);
        granted("launch", x.launch(0), 0);
        due("cell", x.of(0, 5), 0);
        due("house", x.of(0, 4), -1);
        due("open", x.count(3), 1);
        refused("again", x.launch(0), -3);
        refused("door 2", x.launch(2), -2);
        refused("door -1", x.launch(-1), -2);
        Check.rule(x, "bars if wide = 6 and day = 0");
        refused("barred", x.launch(1), -3);
        due("undoable", x.count(6), 1);
        x.terms(0, 1);
        granted("not barred", x.launch(1), 0);
        x.put(0, 1, 4);
        x.tide();
        refused("lost", x.launch(1), -3);
        refusals("launch", 0, 2, 3, 0, 0);
    }

    private static void p22() {
        hung(5);
        refused("hangs", x.sail(0, 2), -3);
        x.launch(0);
        refused("by 0", x.sail(0, 0), -1);
        refused("by 5", x.sail(0, 5), -1);
        refused("-1 ahead of -2", x.sail(9, 5), -1);
        refused("door 1", x.sail(1, 1), -2);
        refused("door -1", x.sail(-1, 1), -2);
        refused("up", x.sail(0, 1), -3);
        refused("left", x.sail(0, 4), -3);
        for (int c = 1; c < 5; c++) granted("right", x.sail(0, 2), c);
        refused("right", x.sail(0, 2), -3);
        for (int c = 9; c < 25; c += 5) granted("down", x.sail(0, 3), c);
        refused("down", x.sail(0, 3), -3);
        granted("left", x.sail(0, 4), 23);
        granted("up", x.sail(0, 1), 18);
        due("cell", x.of(0, 5), 18);
        refusals("sail", 3, 2, 5, 0, 0);
    }

    private static void p23() {
        hung(5);
        refused("hangs", x.fish(0), -3);
        refused("door 1", x.fish(1), -2);
        refused("door -1", x.fish(-1), -2);
        x.launch(0);
        x.put(0, 0, 20);
        granted("fish", x.fish(0), 15);
        granted("what is left", x.fish(0), 5);
        granted("nothing", x.fish(0), 0);
        due("catch", x.of(0, 6), 20);
        due("fish", x.at(0, 0), 0);
        Check.rule(x, "catches 99");
        for (int i = 0; i < 10; i++) {
            x.put(0, 0, 99);
            granted("99", x.fish(0), 99);
        }
        due("999 at most", x.of(0, 6), 999);
        due("less by that all the same", x.at(0, 0), 0);
        refusals("fish", 0, 2, 1, 0, 0);
    }

    private static void p24() {
        hung(5, 5, 9, 4);
        refused("hangs", x.hang(0, 0), -3);
        x.launch(0);
        x.fish(0);
        refused("not open", x.hang(0, 1), -3);
        refused("house 4", x.hang(0, 4), -2);
        refused("house -1", x.hang(0, -1), -2);
        refused("door 4", x.hang(4, 0), -2);
        refused("door -1", x.hang(-1, 0), -2);
        x.launch(2);
        refused("does not fit", x.hang(0, 2), -3);
        x.sail(0, 2);
        refused("not in the harbour", x.hang(0, 0), -3);
        x.sail(0, 4);
        x.launch(3);
        granted("hang", x.hang(0, 3), 10);
        due("house", x.of(0, 4), 3);
        due("cell", x.of(0, 5), -1);
        due("catch", x.of(0, 6), 0);
        due("door", x.frame(3, 1), 0);
        refusals("hang", 0, 4, 4, 0, 0);
    }

    private static void p25() {
        hung(5, 5, 5);
        x.put(0, 1, 2);
        x.put(1, 1, 1);
        x.put(2, 0, 99);
        x.launch(0);
        x.launch(1);
        x.sail(1, 2);
        granted("one over the edge", x.tide(), 1);
        due("lost", x.of(1, 7), 1);
        due("drifted once", x.of(0, 5), 1);
        due("hangs still", x.of(2, 4), 2);
        due("fish", x.at(0, 0), 11);
        due("99 at most", x.at(2, 0), 99);
        due("day", x.count(14), 1);
        x.terms(0, 998);
        granted("to 999", x.tide(), 1);
        refused("at 999", x.tide(), -3);
        due("day", x.count(14), 999);
        due("fish", x.at(0, 0), 12);
        refusals("tide", 0, 0, 1, 0, 0);
    }

    private static void p26() {
        hung(5);
        refused("none", x.undo(), -3);
        x.launch(0);
        x.sail(0, 2);
        x.fish(0);
        x.sail(0, 4);
        x.hang(0, 0);
        x.tide();
        x.house(5);
        x.foe(1);
        x.peace();
        Check.rule(x, "fits");
        due("six", x.count(6), 6);
        granted("tide", x.undo(), 4);
        due("day", x.count(14), 0);
        due("fish", x.at(7, 0), 10);
        granted("hang", x.undo(), 3);
        due("cell", x.of(0, 5), 0);
        due("catch", x.of(0, 6), 10);
        granted("sail", x.undo(), 1);
        granted("fish", x.undo(), 2);
        due("fish", x.at(1, 0), 10);
        due("catch", x.of(0, 6), 0);
        granted("sail", x.undo(), 1);
        granted("launch", x.undo(), 0);
        due("house", x.of(0, 4), 0);
        refused("no more", x.undo(), -3);
        due("other calls are not undone", x.count(0) + x.count(5) + x.count(13), 3);
        for (int i = 0; i < 17; i++) x.tide();
        for (int i = 0; i < 16; i++) granted("16 are kept", x.undo(), 4);
        refused("the 17th is not", x.undo(), -3);
        due("day", x.count(14), 1);
        x.launch(0);
        x.put(0, 0, 100);
        x.terms(0, -1);
        x.door(0, 0, 0, 0);
        x.row();
        due("refused ones leave it", x.count(6), 1);
        x.door(5, 0, 1, 0);
        refused("ahead of a door", x.undo(), -3);
    }

    private static void p27() {
        hung(2, 5, 3, 5);
        due("none needed", x.fleet(0, 0), 0);
        due("none needed", x.fleet(0, 1), 0);
        due("one", x.fleet(15, 0), 1);
        due("the lowest", x.fleet(15, 1), 2);
        due("two", x.fleet(16, 0), 2);
        due("the lowest", x.fleet(16, 1), 3);
        due("two", x.fleet(24, 1), 6);
        due("all", x.fleet(45, 1), 15);
        due("not by all", x.fleet(46, 0), -1);
        due("not by all", x.fleet(46, 1), -1);
        x.launch(1);
        due("at sea", x.fleet(15, 1), 8);
        Check.rule(x, "bars if door = 3;catches 99 if fish = 99 and cell = 0 and catch = 0");
        due("barred; 99 each", x.fleet(198, 1), 5);
        due("more", x.fleet(199, 1), -1);
        due("fish -1", x.fleet(-1, 0), -1);
        due("fish 10000", x.fleet(10000, 0), -1);
        due("9999", x.fleet(9999, 0), -1);
        due("what 2", x.fleet(0, 2), -1);
        due("what -1", x.fleet(0, -1), -1);
    }

    private static void p28() {
        fresh(5, 6, 7);
        x.door(7, 0, 0, 0);
        x.door(6, 0, 1, 0);
        due("hang", x.hanging(0), 2);
        due("homes", x.hanging(1), 1);
        due("row", x.hanging(2), 2);
        due("row", x.hanging(3), 1);
        due("no such door", x.hanging(4), -1);
        x.door(9, 0, 2, 0);
        due("hang", x.hanging(0), 2);
        due("none", x.hanging(4), 100);
        x.launch(0);
        due("at sea, too", x.hanging(2), 2);
        x.put(0, 1, 4);
        x.tide();
        due("lost", x.hanging(2), -1);
        due("without it", x.hanging(0), 1);
        due("home", x.hanging(3), 1);
        due("what -1", x.hanging(-1), -1);
        due("what 10", x.hanging(10), -1);
        hung(5, 5);
        x.launch(0);
        x.launch(1);
        x.hang(0, 1);
        x.hang(1, 0);
        due("in their homes", x.hanging(1), 2);
        due("row", x.hanging(2), 0);
        fresh(5, 5, 5);
        x.door(5, 0, 2, 0);
        x.launch(0);
        x.door(5, 0, 2, 0);
        due("one home for two", x.hanging(1), 1);
        due("the first row", x.hanging(2), 0);
        due("the first row", x.hanging(3), 2);
    }

    private static void p29() {
        hung(5, 5, 5, 5);
        x.house(5);
        due("all right", x.right(), 0);
        Check.orders(x, "launch 0;launch 1;hang 0 in 1;hang 1 in 0");
        due("a ring of two", x.right(), 1);
        Check.orders(x, "launch 2;launch 3;hang 2 in 3;hang 3 in 2");
        due("two rings", x.right(), 2);
        Check.orders(x, "launch 0;launch 1;launch 2;launch 3;hang 0 in 1;hang 1 in 2;hang 2 in 3;hang 3 in 0");
        due("a ring of four", x.right(), 3);
        Check.orders(x, "launch 3;hang 3 in 4");
        due("a line into the open", x.right(), 4);
        x.launch(3);
        due("without one at sea", x.right(), 3);
        Check.orders(x, "launch 0;hang 0 in 0");
        due("two", x.right(), 2);
        fresh(5, 5);
        x.door(5, 0, 0, 0);
        x.launch(0);
        x.door(5, 0, 0, 0);
        due("one hangs", x.right(), 0);
        x.hang(0, 1);
        due("two have one home", x.right(), -1);
    }

    private static void p30() {
        fresh(5, 5, 5);
        x.door(5, 0, 0, 0);
        x.door(5, 0, 1, 63);
        x.door(5, 0, 2, 7);
        due("itself", x.heard(63, 0), 2);
        due("three", x.heard(0, 3), 5);
        due("three", x.heard(63, 3), 6);
        due("two", x.heard(0, 2), 1);
        due("six", x.heard(0, 6), 7);
        due("none", x.heard(8, 0), 0);
        x.launch(2);
        x.put(0, 1, 1);
        x.tide();
        due("a lost one is a door still", x.heard(7, 0), 4);
        due("knocks 64", x.heard(64, 0), -1);
        due("knocks -1", x.heard(-1, 0), -1);
        due("k 7", x.heard(0, 7), -1);
        due("k -1", x.heard(0, -1), -1);
    }

    private static void p31() {
        fresh(5, 5, 5);
        due("without doors", x.knock(0), 0);
        due("without doors", x.knock(1), 6);
        x.door(5, 0, 0, 0);
        due("all unlike", x.knock(0), 63);
        due("all unlike", x.knock(1), 6);
        x.door(5, 0, 1, 63);
        due("the lowest of three bits", x.knock(0), 7);
        due("three", x.knock(1), 3);
        x.door(5, 0, 2, 7);
        due("what 2", x.knock(2), -1);
        due("what -1", x.knock(-1), -1);
        due("three bits from 0, 63, 7", x.knock(1), 3);
        due("the lowest", x.knock(0), 25);
    }

    private static void p32() {
        fresh();
        due("no drift", x.wreck(24, 99), 1 << 24);
        due("none yet", x.wreck(0, 0), 1);
        for (int c = 0; c < 4; c++) x.put(c, 1, 2);
        x.put(9, 1, 1);
        due("one tide", x.wreck(4, 1), 1 << 3 | 1 << 4 | 1 << 9);
        due("two tides", x.wreck(4, 2), 1 << 2 | 1 << 3 | 1 << 4 | 1 << 9);
        due("left behind", x.wreck(3, 1), 1 << 2);
        due("none comes", x.wreck(0, 1), 0);
        x.put(24, 1, 2);
        due("over the edge", x.wreck(24, 1), 0);
        due("cell 25", x.wreck(25, 0), -1);
        due("cell -1", x.wreck(-1, 0), -1);
        due("n 100", x.wreck(0, 100), -1);
        due("n -1", x.wreck(0, -1), -1);
        x.put(5, 1, 2);
        x.put(6, 1, 4);
        due("to and fro", x.wreck(5, 99), 1 << 6);
    }

    private static void p33() {
        fresh();
        due("none", x.search(0, -1), 0);
        due("none", x.search(0, 0), -1);
        due("the harbour", x.search(1, -1), 0);
        due("the harbour", x.search(1, 0), 0);
        due("corners", x.search(1 << 4 | 1 << 20 | 1 << 24, -1), 12);
        due("the first row", x.search(1 << 4 | 1 << 20 | 1 << 24, 0), 4);
        due("the first row", x.search(1 << 4 | 1 << 20 | 1 << 24, 1), 24);
        due("the first row", x.search(1 << 4 | 1 << 20 | 1 << 24, 2), 20);
        due("i 3", x.search(1 << 4 | 1 << 20 | 1 << 24, 3), -1);
        due("i -2", x.search(1, -2), -1);
        due("seven", x.search(127 << 18, -1), 10);
        due("eight", x.search(255, -1), -1);
        due("cell 25", x.search(1 << 25, -1), -1);
        due("below 0", x.search(-1, -1), -1);
        due("bit 31", x.search(Integer.MIN_VALUE, -1), -1);
    }

    private static void p34() {
        hung(5, 5);
        due("hangs", x.afloat(0, 0), -1);
        x.launch(0);
        due("now", x.afloat(0, 0), 1_000_000_000_000L);
        due("one", x.afloat(0, 1), 900_000_000_000L);
        long chance = 1_000_000_000_000L;
        for (int n = 0; n < 60; n++) chance = chance * 9 / 10;
        due("sixty, each part cut", x.afloat(0, 60), chance);
        due("n 61", x.afloat(0, 61), -1);
        due("n -1", x.afloat(0, -1), -1);
        due("door 2", x.afloat(2, 0), -1);
        due("door -1", x.afloat(-1, 0), -1);
        Check.rule(x, "slams 3 if cell = 0;slams 20 if cell = 2;slams 0");
        x.put(0, 1, 2);
        x.put(1, 1, 2);
        due("the last that holds", x.afloat(0, 1), 1_000_000_000_000L);
        Check.rule(x, "slams 0;slams 3 if cell = 0;slams 20 if cell = 2");
        due("slammed where it is", x.afloat(0, 1), 700_000_000_000L);
        due("not slammed", x.afloat(0, 2), 700_000_000_000L);
        due("lost for certain", x.afloat(0, 3), 0);
        x.put(1, 1, 1);
        due("over the edge", x.afloat(0, 2), 0);
        x.tide();
        x.tide();
        due("lost", x.afloat(0, 0), -1);
    }

    private static void p35() {
        fresh();
        due("no house", x.guards(0), 0);
        due("no house", x.guards(1), 0);
        fresh(5);
        due("one", x.guards(1), 1);
        fresh(5, 5, 5, 5);
        due("two", x.guards(0), 2);
        due("the lowest", x.guards(1), 0b0101);
        fresh(5, 5, 5, 5, 5, 5, 5, 5);
        due("three", x.guards(0), 3);
        due("the lowest", x.guards(1), 0b01001001);
        x.door(5, 0, 0, 0);
        x.door(5, 0, 7, 0);
        due("two for six", x.guards(0), 2);
        due("two for six", x.guards(1), 1 << 2 | 1 << 5);
        for (int h = 1; h < 7; h++) x.door(5, 0, h, 0);
        due("none open", x.guards(0), 0);
        due("none open", x.guards(1), 0);
        fresh(5, 5, 5);
        x.door(5, 0, 1, 0);
        due("a guard in a house that is not open", x.guards(1), 2);
        due("what 2", x.guards(2), -1);
        due("what -1", x.guards(-1), -1);
    }

    private static void p36() {
        hung(3, 5, 8);
        due("no foes", x.battle(0), 0);
        due("none", x.battle(1), 100);
        x.foe(4);
        x.foe(7);
        due("two", x.battle(0), 2);
        due("none", x.battle(1), 100);
        due("row", x.battle(2), 0);
        due("row", x.battle(3), 1);
        x.foe(2);
        due("three", x.battle(0), 3);
        due("row", x.battle(1), 2);
        x.peace();
        x.foe(5);
        due("not above", x.battle(0), 1);
        due("row", x.battle(2), 100);
        due("row", x.battle(3), 0);
        x.foe(9);
        due("one that can't win stands against one, too", x.battle(1), 1);
        x.launch(2);
        due("at sea, too", x.battle(3), 0);
        x.put(0, 1, 1);
        x.tide();
        due("lost", x.battle(3), -1);
        due("none wins", x.battle(0), 0);
        due("no such door", x.battle(4), -1);
        due("what -1", x.battle(-1), -1);
    }

    private static void p37() {
        hung(3, 3, 3, 4);
        due("hangs", x.share(10, 0), -1);
        for (int d = 0; d < 3; d++) x.launch(d);
        due("alike: the lowest first", x.share(10, 0), 4);
        due("alike", x.share(10, 1), 3);
        due("alike", x.share(10, 2), 3);
        x.launch(3);
        due("13 parts of 99,999", x.share(99_999, 0), 23077);
        due("13 parts of 99,999", x.share(99_999, 3), 30769);
        due("5: rests 2, 2, 2, 7", x.share(5, 3), 2);
        due("5: rests 2, 2, 2, 7", x.share(5, 0), 1);
        due("1", x.share(1, 3), 1);
        due("1", x.share(1, 0), 0);
        due("nothing", x.share(0, 0), 0);
        due("whale -1", x.share(-1, 0), -1);
        due("whale 100000", x.share(100_000, 0), -1);
        due("door 4", x.share(1, 4), -1);
        due("door -1", x.share(1, -1), -1);
    }

    private static void p38() {
        hung(5, 5);
        granted("none at sea", x.summers(0, 60), 0);
        refused("seed -1", x.summers(-1, 1), -1);
        refused("seed 1000001", x.summers(1_000_001, 1), -1);
        refused("n 0", x.summers(0, 0), -1);
        refused("n 61", x.summers(0, 61), -1);
        refusals("summers", 4, 0, 0, 0, 0);
        x.launch(0);
        x.launch(1);
        // s: 17,860, then 711,868.
        granted("the first is slammed", x.summers(5, 1), 1);
        due("first", x.drawn(0, 0), -1);
        due("second", x.drawn(1, 0), 0);
        Check.rule(x, "slams 0");
        granted("no storms", x.summers(1_000_000, 60), 0);
        Check.rule(x, "slams 10");
        granted("all", x.summers(1_000_000, 1), 2);
        Check.rule(x, "slams 10 if fish = 0 and catch > 0");
        x.put(0, 0, 16);
        granted("asked behind the fishing, one by one", x.summers(7, 1), 1);
        due("the first is afloat", x.drawn(0, 0), 0);
        due("nothing is changed", x.of(0, 6) + x.count(14) + x.count(4), 0);
        Check.rule(x, "slams 0");
        x.put(0, 1, 3);
        granted("over the edge", x.summers(1, 5), 0);
        x.put(5, 1, 4);
        granted("over the edge", x.summers(1, 2), 2);
        x.terms(0, 998);
        granted("until 999", x.summers(1, 2), 0);
        due("one tide", x.drawn(0, 0), 5);
        x.terms(0, 999);
        granted("at 999 none", x.summers(1, 2), 0);
        due("as it was", x.drawn(0, 0), 0);
    }

    private static void p39() {
        hung(5, 5, 5);
        due("ahead of any", x.drawn(0, 0), -1);
        due("ahead of any", x.drawn(0, 1), -1);
        Check.rule(x, "slams 0");
        x.launch(0);
        x.put(0, 1, 2);
        x.summers(3, 2);
        due("cell", x.drawn(0, 0), 1);
        due("catch", x.drawn(0, 1), 21);
        due("not at sea", x.drawn(1, 0), -1);
        due("catch", x.drawn(1, 1), 0);
        due("fish", x.drawn(0, 2), 2);
        due("fish", x.drawn(1, 2), 1);
        due("fish", x.drawn(24, 2), 12);
        x.summers(3, 0);
        due("a refused one leaves it", x.drawn(24, 2), 12);
        x.image(0);
        x.summers(3, 1);
        x.back(0);
        due("images do not keep it", x.drawn(24, 2), 11);
        due("door 3", x.drawn(3, 1), -1);
        due("door -1", x.drawn(-1, 1), -1);
        due("cell 25", x.drawn(25, 2), -1);
        due("cell -1", x.drawn(-1, 2), -1);
        due("what 3", x.drawn(0, 3), -1);
        due("what -1", x.drawn(0, -1), -1);
    }

    private static void p40() {
        hung(5);
        granted("image 0", x.image(0), 0);
        granted("image 1", x.image(1), 0);
        refused("image 2", x.image(2), -1);
        refused("image -1", x.image(-1), -1);
        refusals("image", 2, 0, 0, 0, 0);
        x.launch(0);
        x.image(1);
        due("undoable still", x.count(6), 1);
        x.back(0);
        due("hung", x.of(0, 4), 0);
        x.back(1);
        due("kept anew", x.of(0, 5), 0);
    }

    private static void p41() {
        hung(5);
        refused("back 2", x.back(2), -1);
        refused("back -1", x.back(-1), -1);
        refused("not kept", x.back(0), -2);
        refusals("back", 2, 1, 0, 0, 0);
        Check.rule(x, "slams 2");
        x.foe(3);
        x.terms(1, 4);
        x.image(0);
        x.launch(0);
        x.fish(0);
        x.tide();
        x.put(3, 0, 77);
        x.put(3, 1, 2);
        x.house(6);
        x.door(6, 0, 1, 1);
        x.peace();
        x.terms(1, 5);
        Check.rule(x, "slams 3");
        x.feed(0, 0, 0, 0, 0);
        x.launch(1);
        granted("back", x.back(0), 0);
        int[] counts = {1, 1, 1, 0, 0, 1, 0, 20, 2, 1, 0, 0, 0, 0, 0, 4};
        for (int what = 0; what < counts.length; what++) due("back, count " + what, x.count(what), counts[what]);
        due("fish", x.at(3, 0), 10);
        due("drift", x.at(3, 1), 0);
        due("fish", x.at(0, 0), 10);
        due("house", x.of(0, 4), 0);
        due("catch", x.of(0, 6), 0);
        due("law", x.asks(0, 0, 1), 2);
        refused("nothing can be undone", x.undo(), -3);
        x.launch(0);
        granted("images stay", x.back(0), 0);
        due("house", x.of(0, 4), 0);
        x.end(0);
        granted("a law behind back", Check.law(x, "slams 5"), 1);
        x.force(1);
        due("the new one", x.asks(0, 0, 1), 5);
    }

    private static void p42() {
        hung(5, 6);
        x.house(7);
        x.foe(1);
        x.foe(2);
        x.foe(3);
        Check.law(x, "slams 0");
        Check.law(x, "slams 0");
        x.force(1);
        x.terms(0, 12);
        x.terms(1, 3);
        x.put(0, 1, 1);
        x.launch(0);
        x.tide();
        x.feed(0, 0, 0, 0, 0);
        x.end(7);
        int[] counts = {3, 2, 3, 2, 1, 2, 2, 7, 0, 0, 0, 0, 0, 1, 13, 3};
        for (int what = 0; what < counts.length; what++) due("count " + what, x.count(what), counts[what]);
        due("count -1", x.count(-1), -1);
        due("count 16", x.count(16), -1);
        x.house(0);
        x.launch(5);
        x.fish(0);
        x.end(0);
        x.row();
        for (int i = 0; i < 6; i++) x.foe(1);
        refusals("count", 1, 1, 1, 1, 1);
        x.image(0);
        x.house(0);
        x.back(0);
        refusals("images do not keep it", 2, 1, 1, 1, 1);
    }

    private static void p43() {
        hung(5, 5);
        due("house", x.status(), 0);
        x.launch(9);
        due("launch", x.status(), -2);
        x.of(0, 0);
        x.feed(0, 0, 0, 0, 0);
        x.end(-1);
        x.end(0);
        x.peace();
        x.fleet(-1, 0);
        x.count(0);
        x.drawn(-1, 0);
        due("other calls leave it", x.status(), -2);
        x.row();
        due("row", x.status(), -6);
        x.launch(0);
        due("launch", x.status(), 0);
        x.summers(-1, 0);
        due("summers", x.status(), -1);
        x.back(0);
        due("back", x.status(), -2);
        x.image(0);
        due("image", x.status(), 0);
        Check.orders(x, "fish 7");
        due("orders", x.status(), -3);
    }
}
