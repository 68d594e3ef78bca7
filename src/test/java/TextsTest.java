/** Each sentence of "Terms" part II that names an edge: the TAPE, TOKENS, both languages, LAWS, ORDERS. */
public final class TextsTest extends Edge {
    public static void main(String[] args) {
        tape();
        tokens();
        everyByte();
        clauses();
        tests();
        sums();
        numbers();
        parts();
        brackets();
        faults();
        values();
        beyond();
        brokenTests();
        laws();
        lawGrammar();
        lawWords();
        asked();
        holds();
        catches();
        slams();
        fits();
        bars();
        ordersGrammar();
        ordersWords();
        times();
        doors();
        partsOfOrders();
        runs();
        ifs();
        facts();
        stops();
        longestOrders();
        longestBehindSixteen();
        manyTexts();
        Doc.mustBeNamed("Terms II");
        Check.finish("TextsTest");
    }

    /** A LAW that is read (fault -1), or whose FAULT is told. */
    private static void law(String text, int fault) {
        fresh();
        tell(text);
        if (fault < 0) {
            granted(x -> x.law(), 0);
            due(x -> x.fault(), -1);
            due(x -> x.count(7), 0);
        } else {
            unread(x -> x.law(), -6, fault, -1);
        }
    }

    /** ORDERS that are read, whether they can be run or not, or whose FAULT is told. */
    private static void orders(String text, int fault) {
        hung(5, 5);
        tell(text);
        if (fault >= 0) {
            unread(x -> x.orders(), -6, fault, -1);
            return;
        }
        is("\"" + text + "\" is read", does(x -> x.orders()) != -6);
        due(x -> x.fault(), -1);
        due(x -> x.count(7), 0);
    }

    /** ORDERS that run so many. */
    private static void ran(String text, int many) {
        tell(text);
        granted(x -> x.orders(), many);
        due(x -> x.stopped(), -1);
        due(x -> x.fault(), -1);
    }

    /** ORDERS that can't be, by this CLAUSE. */
    private static void ended(String text, int clause) {
        tell(text);
        unread(x -> x.orders(), -3, -1, clause);
    }

    /** A TEST as ORDERS and as a LAW ask it: 1 it is so, 0 it is not, -1 it is BROKEN. */
    private static void test(String test, int so) {
        hung(5);
        ran("tide if " + test, so == 1 ? 1 : 0);
        ran("tide if not (" + test + ")", so == 0 ? 1 : 0);
        rule("slams 2;slams 3 if " + test + ";slams 4 if not (" + test + ")");
        due(x -> x.asks(0, 0, 1), so < 0 ? 2 : so == 1 ? 3 : 4);
    }

    /** A SUM in both languages. */
    private static void sum(String sum, long value) {
        String number = (value < 0 ? "0-" : "") + Math.abs(value);
        test(sum + "=" + number, 1);
        test(number + ">" + sum, 0);
    }

    // ---- the TAPE and its TOKENS ----

    private static void tape() {
        says("Terms II", "TEXTS are on a TAPE of at most 400 bytes.");
        fresh();
        for (int n : upTo(20)) due(x -> x.feed(0x66697473, 0x20202020, 0x20202020, 0x20202020, 0x20202020), 20 * n + 20);
        none(x -> x.feed(0, 0, 0, 0, 0));
        due(x -> x.count(7), 400);
        unread(x -> x.law(), -6, 20, -1);
        law("fits" + " ".repeat(396), -1);
        law(" ".repeat(396) + "fits", -1);
        law("fits" + " ".repeat(395) + ";", 400);
        law("fits" + " ".repeat(394) + ";!", 399);
        law("slams " + "0".repeat(394), -1);
        law("slams " + "0".repeat(390) + "1000", -1);
        law("a".repeat(400), 0);
        law(" ".repeat(400), 400);
        law("fits if " + "not ".repeat(97) + "1=1", -1);
        law("fits if" + "(".repeat(393), 15);
        law("!".repeat(400), 0);
        law("a1".repeat(200), 0);
        law("slams " + " ".repeat(389) + "catch", -1);
        law("slams" + " ".repeat(391) + "home", -1);
        law(" ".repeat(398) + "fi", 398);
        law(" ".repeat(399) + "!", 399);
        orders("tide" + " ".repeat(396), -1);
        orders("tide" + " ".repeat(395) + "!", 399);
    }

    private static void tokens() {
        says("Terms II", "TOKENS: longest rows of letters a .. z, of digits, single other bytes, any blanks (32) between.");
        law("slams1", -1);
        law("slams 1if1=1and2=2or not(3=3)", -1);
        law("slams wide*3-[wood+1]%2if not(wide>1or wood<2)and home=1", -1);
        law("slams 1 if wide=1or wood=1", -1);
        law("slams 1 if wide=wideor wood=1", 16);
        law("fitsbars", 0);
        law("fi ts", 0);
        law("slams 1 0", 8);
        law("slams 10", -1);
        law("slams wide1", 10);
        law("slams 1wide", 7);
        law("fits if 1<>2", 10);
        law("fits if 1==2", 10);
        law("fits if 1 = 2", -1);
        law("fits   if   1   =   2   ", -1);
        law("Fits", 0);
        law("fITS", 0);
        law("fits iF 1=1", 5);
        orders("tidetimes 2", 0);
        orders("tide times2", -1);
        orders("tide times 2if day=0", -1);
        orders("fish at0", -1);
        orders("fish at 0 0", 10);
    }

    /** Each of the 256 bytes behind a word, behind a NUMBER and ahead of all. */
    private static void everyByte() {
        says("Terms II", "TOKENS: longest rows of letters a .. z, of digits, single other bytes, any blanks (32) between.");
        for (int b = 0; b < 256; b++) {
            boolean letter = b >= 97 && b <= 122;
            boolean digit = b >= 48 && b <= 57;
            boolean joins = b == '+' || b == '-' || b == '*' || b == '/' || b == '%' || b == ';';
            law("fits" + (char) b, b == 32 ? -1 : letter ? 0 : b == ';' ? 5 : 4);
            law("slams 1" + (char) b, b == 32 || digit ? -1 : joins ? 8 : 7);
            law((char) b + "fits", b == 32 ? -1 : 0);
            law("fits if 1=1" + (char) b + "0", b == 32 ? 12 : digit || joins && b != ';' ? -1 : b == ';' ? 12 : 11);
        }
    }

    // ---- what both languages share ----

    private static void clauses() {
        says("Terms II", "Of both languages: CLAUSE {\";\" CLAUSE}, 12 at most (FAULT at the 13th's first TOKEN).");
        law(again("fits", 12, ";"), -1);
        law(again("fits", 13, ";"), 60);
        law(again("fits", 12, ";") + ";  fits", 62);
        law(again("fits", 12, ";") + ";", 60);
        law(again("fits", 12, ";") + ";;", 60);
        law(again("fits", 12, ";") + "; !", 61);
        law(again("fits", 11, ";") + ";!", 55);
        law("fits;", 5);
        law(";fits", 0);
        law("fits;;fits", 5);
        law("fits fits", 5);
        law("fits if 1=1 fits", 12);
        orders(again("tide", 12, ";"), -1);
        orders(again("tide", 13, ";"), 60);
        orders(again("tide", 12, ";") + "; tide times 0", 61);
        orders("tide;", 5);
        orders(";", 0);
        hung(5);
        ran(again("tide", 12, ";"), 12);
    }

    private static void tests() {
        says("Terms II", "TEST: BOTH {\"or\" BOTH}. BOTH: PLAIN {\"and\" PLAIN}. PLAIN: \"not\" PLAIN | \"(\" TEST \")\" | SUM (\"<\" | \">\" | \"=\") SUM.");
        law("fits if", 7);
        law("fits if 1=1 or", 14);
        law("fits if 1=1 and", 15);
        law("fits if or 1=1", 8);
        law("fits if and 1=1", 8);
        law("fits if 1=1 or and 1=1", 15);
        law("fits if not", 11);
        law("fits if not or 1=1", 12);
        law("fits if 1=1 not 1=1", 12);
        law("fits if 1 not = 1", 10);
        law("fits if ()", 9);
        law("fits if (1=1", 12);
        law("fits if 1=1)", 11);
        law("fits if (1=1))", 13);
        law("fits if (1=1]", 12);
        law("fits if (1)=1", 10);
        law("fits if (1=1)=1", 13);
        law("fits if 1", 9);
        law("fits if 1+", 10);
        law("fits if 1=", 10);
        law("fits if =1", 8);
        law("fits if 1=1=1", 11);
        law("fits if 1!1", 9);
        law("fits if 1 if 1=1", 10);
        law("fits if 1=1 if 1=1", 12);
        law("fits if " + again("1=1", 24, " or "), -1);
        law("fits if " + again("1=1", 24, " and "), -1);
        test("1=1 or 1=1 and 1=2", 1);
        test("(1=1 or 1=1) and 1=2", 0);
        test("1=2 and 1=1 or 1=1", 1);
        test("1=2 and (1=1 or 1=1)", 0);
        test("not 1=2 and 1=2", 0);
        test("not (1=2 and 1=2)", 1);
        test("not 1=1 or 1=1", 1);
        test("not not 1=1", 1);
        test("not not not 1=1", 0);
        test("1<1", 0);
        test("1<2", 1);
        test("2<1", 0);
        test("1>1", 0);
        test("2>1", 1);
        test("1>2", 0);
        test("1=1", 1);
        test("1=2", 0);
    }

    private static void sums() {
        says("Terms II", "SUM: TERM {(\"+\" | \"-\") TERM}. TERM: PART {(\"*\" | \"/\" | \"%\") PART}.");
        law("slams", 5);
        law("slams ;", 6);
        law("slams -1", 6);
        law("slams +1", 6);
        law("slams 1-", 8);
        law("slams 1--1", 8);
        law("slams 1*", 8);
        law("slams 1*+1", 8);
        law("slams 1/", 8);
        law("slams 1%", 8);
        law("slams 1 1", 8);
        law("slams 1&1", 7);
        law("slams not 1", 6);
        law("slams 1=1", 7);
        sum("10-3-2", 5);
        sum("10-3+2", 9);
        sum("100/7/2", 7);
        sum("100/7*2", 28);
        sum("100*7/2", 350);
        sum("17%7*2", 6);
        sum("2*17%7", 6);
        sum("7-2*3", 1);
        sum("2*3-7", -1);
        sum("1+6/2", 4);
        sum("1+6%4", 3);
        sum("[1+6]/2", 3);
        sum("2*[3-7]", -8);
        for (int signs = 0; signs < 125; signs++) chain(signs);
        // As much as can wait at once: a TERM and a PART ahead of each of eight brackets.
        hung(9);
        String deep = "1+2*[".repeat(8) + "1+2*3" + "]".repeat(8);
        ran("tide if " + deep + "=1000*2+47", 1);
        ran("tide if 1000*2+47=" + deep, 1);
        ran("tide if 1000*2+46=" + deep, 0);
        does(x -> x.put(0, 0, 99));
        rule("catches " + deep + "-1000*2");
        due(x -> x.asks(0, 0, 0), 47);
    }

    /** Four NUMBERS joined by three of the five signs: each TERM is cut as it goes on, then added or taken off. */
    private static void chain(int signs) {
        int[] numbers = {17, 3, 7, 2};
        StringBuilder text = new StringBuilder().append(numbers[0]);
        int sum = 0;
        int term = numbers[0];
        for (int i = 1, left = signs; i < 4; i++, left /= 5) {
            char sign = "+-*/%".charAt(left % 5);
            text.append(sign).append(numbers[i]);
            if (sign == '+' || sign == '-') {
                sum += term;
                term = sign == '+' ? numbers[i] : -numbers[i];
            } else {
                term = sign == '*' ? term * numbers[i] : sign == '/' ? term / numbers[i] : term % numbers[i];
            }
        }
        sum(text.toString(), sum + term);
    }

    private static void numbers() {
        says("Terms II", "PART: NUMBER (to 1,000) | \"[\" SUM \"]\" | a word, as told.");
        law("slams 0", -1);
        law("slams 999", -1);
        law("slams 1000", -1);
        law("slams 1001", 6);
        law("slams 9999", 6);
        law("slams 0001000", -1);
        law("slams 0001001", 6);
        law("slams 1+1001", 8);
        law("fits if 1=1001", 10);
        law("slams 1,000", 7);
        law("slams 2147483648", 6);
        law("slams 4294967296", 6);
        law("slams 4294967301", 6);
        law("slams 18446744073709551616", 6);
        law("slams 1" + "0".repeat(300), 6);
        law("slams []", 7);
        law("slams [1", 8);
        law("slams [1)", 8);
        law("slams 1]", 7);
        law("slams [1]]", 9);
        law("slams [1]2", 9);
        law("slams (1)", 6);
        law("fits if [1=1]", 10);
        law("slams [1]*[[2]]", -1);
        orders("fish 1000", -1);
        orders("fish 1001", 5);
        sum("[1000]", 1000);
    }

    private static void parts() {
        says("Terms II", "50 PARTS that are NUMBERS and words (FAULT at the 51st)");
        law("slams " + again("1", 50, "+"), -1);
        law("slams " + again("1", 51, "+"), 106);
        law("slams " + again("1", 51, "+") + "!", 106);
        law("slams " + again("day", 50, "+"), -1);
        law("slams " + again("day", 51, "+"), 206);
        law("slams " + again("[1]", 50, "+"), -1);
        law("slams " + again("[1]", 51, "+"), 207);
        law("slams " + again("1", 50, "+") + "+[", 107);
        law("slams " + again("1", 50, "+") + "+1001", 106);
        law("slams " + again("1", 50, "+") + "+open", 106);
        law("slams " + again("1", 50, "+") + " if", 108);
        law("slams " + again("1", 50, "+") + " if 1=1", 109);
        law("slams " + again("1", 48, "+") + " if 1=1", -1);
        law("slams " + again("1", 48, "+") + " if 1=1 or day", 112);
        law("slams " + again("1", 50, "+") + ";fits", -1);
        law("slams " + again("1", 50, "+") + ";slams 1", 112);
        law("fits if " + again("1=1", 25, " or "), -1);
        law("fits if " + again("1=1", 26, " or "), 183);
        law("slams " + again("1", 25, "+") + ";slams " + again("1", 26, "+"), 112);
    }

    private static void brackets() {
        says("Terms II", "8 brackets of both kinds within one another (FAULT at the 9th) at most.");
        law("slams [[[[[[[[1]]]]]]]]", -1);
        law("slams [[[[[[[[[1]]]]]]]]]", 14);
        law("slams [[[[[[[[1+[1]]]]]]]]]", 16);
        law("slams [[[[[[[[1]]]]]]]]+[[[[[[[[1]]]]]]]]", -1);
        law("slams [[[[[[[[1]]]]]]]]*[[[[[[[[[1", 32);
        law("fits if ((((((((1=1))))))))", -1);
        law("fits if (((((((((1=1)))))))))", 16);
        law("fits if ((((((((1=1)))))))) and ((((((((1=1))))))))", -1);
        law("fits if ((((((([1]=1)))))))", -1);
        law("fits if (((((((1=[1])))))))", -1);
        law("fits if (((((((([1]=1))))))))", 16);
        law("fits if ((((((((1=[1]))))))))", 18);
        law("fits if (((([[[[1]]]]=1))))", -1);
        law("fits if (((([[[[[1]]]]]=1))))", 16);
        law("fits if (not(not(not(not(not(not(not(1=1))))))))", -1);
        law("fits if (not(not(not(not(not(not(not(not(1=1)))))))))", 40);
        law("slams [[[[[[[[", 14);
        orders("fish [[[[[[[[0]]]]]]]]", -1);
        orders("fish [[[[[[[[[0]]]]]]]]]", 13);
        sum("[[[[[[[5]]]]]]]", 5);
    }

    private static void faults() {
        says("Terms II", "FAULT: the first TOKEN that can't go on there (the end's: the TEXT's length).");
        law("", 0);
        law(" ", 1);
        law("    ", 4);
        law("slams ", 6);
        law("slams    ", 9);
        law("slams 1 +   ", 12);
        law("  !", 2);
        law("fits !!", 5);
        law("fits ! !", 5);
        law("catch 1", 0);
        law("fits;slams;fits if 1=1001", 10);
        orders("", 0);
        orders("  ", 2);
        orders("tide;sail 0 by", 14);
        orders("tide ; ! ; !", 7);
        // What is behind the end is no part of the TEXT.
        fresh();
        tell("fits !");
        due(x -> x.end(5), 5);
        granted(x -> x.law(), 0);
        tell("fits !");
        due(x -> x.end(4), 4);
        tell(";bars;");
        unread(x -> x.law(), -6, 10, -1);
    }

    private static void values() {
        says("Terms II", "divided by 0 (/ cut towards 0, % what is left then)");
        sum("7/2", 3);
        sum("[0-7]/2", -3);
        sum("7/[0-2]", -3);
        sum("[0-7]/[0-2]", 3);
        sum("1/2", 0);
        sum("[0-1]/2", 0);
        sum("7%2", 1);
        sum("[0-7]%2", -1);
        sum("7%[0-2]", 1);
        sum("[0-7]%[0-2]", -1);
        sum("6%2", 0);
        sum("0/5", 0);
        sum("0%5", 0);
        test("1/1=1", 1);
        test("1/0=0", -1);
        test("0/0=0", -1);
        test("1%0=0", -1);
        test("0%0=0", -1);
        test("1/[1-1]=0", -1);
        test("0*[1/0]=0", -1);
        test("5=1/0", -1);
        test("1/0<1", -1);
        test("1/0>1", -1);
        test("1/1%1=0", 1);
    }

    private static void beyond() {
        says("Terms II", "Beyond 1,000,000,000 either way, or");
        String most = "1000*1000*1000";
        test(most + ">0", 1);
        test("0-" + most + "<0", 1);
        test(most + "+0=" + most, 1);
        test(most + "+1>0", -1);
        test("0-" + most + "-1<0", -1);
        test("0-" + most + "+1<0", 1);
        test(most + "-1>0", 1);
        test(most + "*1>0", 1);
        test(most + "*2>0", -1);
        test(most + "*[0-1]<0", 1);
        test(most + "*[0-2]<0", -1);
        test(most + "*1000>0", -1);
        test(most + "*[" + most + "]>0", -1);
        test(most + "*[0-" + most + "]<0", -1);
        test(most + "*1000/1000>0", -1);
        test(most + "+1-1>0", -1);
        test("1+" + most + "-1>0", -1);
        test("1-1+" + most + ">0", 1);
        test("[" + most + "+1]*0=0", -1);
        test("[0-" + most + "]-[" + most + "]<0", -1);
        test("[0-" + most + "]/[0-1]>0", 1);
        test("1000*1000*1000%7=6", 1);
    }

    private static void brokenTests() {
        says("Terms II", "a SUM, a TEST is BROKEN (\"or\", \"and\" ask what stands behind only if it can still matter; a part that was asked and is BROKEN makes all of it BROKEN).");
        String[] kinds = {"1/0=1", "1=2", "1=1"};
        for (int a = -1; a <= 1; a++) {
            test("not " + kinds[a + 1], a < 0 ? -1 : 1 - a);
            for (int b = -1; b <= 1; b++) {
                test(kinds[a + 1] + " or " + kinds[b + 1], a < 0 ? -1 : a == 1 ? 1 : b);
                test(kinds[a + 1] + " and " + kinds[b + 1], a < 0 ? -1 : a == 0 ? 0 : b);
                for (int c = -1; c <= 1; c++) {
                    int both = b < 0 ? -1 : b == 0 ? 0 : c;
                    test(kinds[a + 1] + " or " + kinds[b + 1] + " and " + kinds[c + 1], a < 0 ? -1 : a == 1 ? 1 : both);
                    int either = b < 0 ? -1 : b == 1 ? 1 : c;
                    test(kinds[a + 1] + " and (" + kinds[b + 1] + " or " + kinds[c + 1] + ")",
                        a < 0 ? -1 : a == 0 ? 0 : either);
                    int first = a < 0 ? -1 : a == 0 ? 0 : b;
                    test(kinds[a + 1] + " and " + kinds[b + 1] + " or " + kinds[c + 1],
                        first < 0 ? -1 : first == 1 ? 1 : c);
                }
            }
        }
        test("1=2 or 1=2 or 1=1 or 1/0=1", 1);
        test("1=1 and 1=1 and 1=2 and 1/0=1", 0);
        test("not (1=1 or 1/0=1)", 0);
        test("not (1=2 and 1/0=1)", 1);
        test("(1/0=1) or 1=1", -1);
        test("1=1 and (1=1 and 1/0=1) or 1=1", -1);
        for (int joints = 0; joints < 8; joints++) for (int plains = 0; plains < 81; plains++) chain(joints, plains);
    }

    /** Four PLAINS joined by "or" (a bit of joints) or "and", each so, not so or BROKEN. */
    private static void chain(int joints, int plains) {
        String[] kinds = {"1/0=1", "1=2", "1=1"};
        StringBuilder text = new StringBuilder();
        int all = 0;
        int both = 1;
        for (int i = 0, left = plains; i < 4; i++, left /= 3) {
            boolean or = i == 0 || (joints >> i - 1 & 1) == 1;
            if (i > 0) text.append(or ? " or " : " and ");
            text.append(kinds[left % 3]);
            if (or && all == 0 && i > 0) all = both;
            if (or) both = 1;
            if (both == 1) both = left % 3 - 1;
        }
        test(text.toString(), all == 0 ? both : all);
    }

    // ---- LAWS ----

    private static void laws() {
        says("Terms II", "LAWS, 6 at most; one is in FORCE (NONE at first: no CLAUSE):");
        hung(5);
        due(x -> x.count(13), -1);
        due(x -> x.asks(0, 0, 1), 1);
        for (int l : upTo(6)) {
            tell("slams " + (l + 2));
            granted(x -> x.law(), l);
            due(x -> x.count(13), -1);
        }
        due(x -> x.asks(0, 0, 1), 1);
        tell("slams 9");
        unread(x -> x.law(), -5, -1, -1);
        due(x -> x.count(5), 6);
        refused(x -> x.force(6), -2);
        refused(x -> x.force(-2), -2);
        for (int l : upTo(6)) {
            granted(x -> x.force(l), l - 1);
            due(x -> x.asks(0, 0, 1), l + 2);
        }
        granted(x -> x.force(-1), 5);
        due(x -> x.asks(0, 0, 1), 1);
    }

    private static void lawGrammar() {
        says("Terms II", "CLAUSE: ((\"catches\" | \"slams\") SUM | \"fits\" | \"bars\") [\"if\" TEST].");
        law("catches 1;slams 1;fits;bars", -1);
        law("catches 1 if 1=1;slams 1 if 1=1;fits if 1=1;bars if 1=1", -1);
        law("catches", 7);
        law("catches if 1=1", 8);
        law("slams if 1=1", 6);
        law("fits 1", 5);
        law("bars 1", 5);
        law("bars wide if 1=1", 5);
        law("if 1=1", 0);
        law("1", 0);
        law("[fits]", 0);
        law("launch 0", 0);
        law("tide", 0);
        law("fish 0", 0);
        law("fits times 2", 5);
        law("slams 1 times 2", 8);
    }

    private static void lawWords() {
        says("Terms II", "Words: \"door\" | \"wide\" | \"wood\" | \"home\" | \"house\" | \"size\" | \"cell\" | \"fish\" | \"catch\" | \"day\" | \"mood\".");
        String[] words = {"door", "wide", "wood", "home", "house", "size", "cell", "fish", "catch", "day", "mood"};
        for (String word : words) {
            law("slams " + word, -1);
            law("fits if " + word + "=" + word, -1);
            law("slams " + word + "s", 6);
            law("slams " + word.substring(0, word.length() - 1), 6);
            law("slams " + word + " 0", 7 + word.length());
        }
        String[] others = {"done", "latest", "open", "at", "at 0", "catches", "slams", "fits", "bars", "launch", "sail",
            "hang", "tide", "by", "in", "times", "if", "or", "and", "not", "doors", "x"};
        for (String other : others) law("slams " + other, 6);
    }

    private static void asked() {
        says("Terms II", "\"catches\", \"slams\" are asked of a DOOR in a CELL (house, size -1),");
        // DOOR 1: WIDE 4, WOOD 3, HOME 2, CATCH 9; in CELL 7 there are 33 FISH.
        fresh(5, 6, 3);
        does(x -> x.door(5, 0, 0, 0));
        does(x -> x.door(4, 3, 2, 63));
        does(x -> x.launch(1));
        does(x -> x.put(0, 0, 9));
        does(x -> x.fish(1));
        does(x -> x.put(7, 0, 33));
        does(x -> x.terms(0, 12));
        does(x -> x.terms(1, 8));
        String who = "door=1 and wide=4 and wood=3 and home=2 and day=12 and mood=8 and house=0-1 and size=0-1";
        rule("catches 5 if " + who + " and cell=7 and fish=33 and catch=9;slams 5 if " + who + " and cell=7 and fish=33 and catch=9");
        due(x -> x.asks(1, 7, 0), 5);
        due(x -> x.asks(1, 7, 1), 5);
        due(x -> x.asks(1, 6, 0), 10);
        due(x -> x.asks(1, 6, 1), 1);
        due(x -> x.asks(0, 7, 1), 1);

        says("Terms II", "\"fits\" of a DOOR and a HOUSE (cell, fish -1),");
        rule("fits if door=1 and wide=4 and wood=3 and home=2 and day=12 and mood=8 and house=1 and size=6 and cell=0-1 and fish=0-1 and catch=9");
        due(x -> x.frame(1, 3), 1);
        due(x -> x.frame(0, 3), 0);
        due(x -> x.frame(2, 3), 0);
        due(x -> x.frame(1, 2), 0);
        granted(x -> x.hang(1, 1), 9);

        says("Terms II", "\"bars\" of a DOOR that would be launched (house: where it hangs, size; cell, fish -1).");
        rule("bars if door=1 and wide=4 and wood=3 and home=2 and day=12 and mood=8 and house=1 and size=6 and cell=0-1 and fish=0-1 and catch=0");
        due(x -> x.of(1, 8), 1);
        due(x -> x.of(0, 8), 0);
        refused(x -> x.launch(1), -3);
        does(x -> x.terms(1, 7));
        granted(x -> x.launch(1), 0);
        due(x -> x.of(1, 8), 0);
    }

    private static void holds() {
        says("Terms II", "A CLAUSE HOLDS, if its \"if\" (if it has one) is so, and neither that nor its SUM is BROKEN.");
        hung(5);
        slammed("slams 5", 5);
        slammed("slams 5 if 1=1", 5);
        slammed("slams 5 if 1=2", 1);
        slammed("slams 5 if 1/0=1", 1);
        slammed("slams 5 if not 1/0=1", 1);
        slammed("slams 1/0", 1);
        slammed("slams 1/0 if 1=1", 1);
        slammed("slams 5;slams 1/0;slams 7 if 1/0=1;slams 8 if 1=2", 5);
        slammed("slams 5;slams 1000*1000*1000+1", 5);
        slammed("slams 5;slams 1000*1000*1000", 10);
    }

    private static void slammed(String law, int of) {
        hung(5);
        rule(law);
        due(x -> x.asks(0, 0, 1), of);
    }

    private static void catches() {
        says("Terms II", "A DOOR CATCHES what the last \"catches\" that HOLDS tells, 0 .. 99 (else the nearest; no more than there is of FISH), WIDE times 3 without;");
        caught("catches 5;catches 6;catches 7", 99, 7);
        caught("catches 5;catches 6 if 1=1;catches 7 if 1=2", 99, 6);
        caught("catches 0", 99, 0);
        caught("catches 1", 99, 1);
        caught("catches 0-1", 99, 0);
        caught("catches 0-1000*1000*1000", 99, 0);
        caught("catches 98", 99, 98);
        caught("catches 99", 99, 99);
        caught("catches 100", 99, 99);
        caught("catches 1000*1000*1000", 99, 99);
        caught("catches 50", 50, 50);
        caught("catches 50", 49, 49);
        caught("catches 50", 51, 50);
        caught("catches 50", 0, 0);
        caught("catches 5 if 1=2", 99, 27);
        caught("slams 5", 99, 27);
        caught("fits", 27, 27);
        caught("fits", 26, 26);
        caught("fits", 28, 27);
        hung(1, 9);
        does(x -> x.put(3, 0, 99));
        due(x -> x.asks(0, 3, 0), 3);
        due(x -> x.asks(1, 3, 0), 27);
    }

    private static void caught(String law, int fish, int caught) {
        hung(9);
        rule(law);
        does(x -> x.put(3, 0, fish));
        due(x -> x.asks(0, 3, 0), caught);
        does(x -> x.launch(0));
        does(x -> x.put(0, 0, fish));
        granted(x -> x.fish(0), caught);
        due(x -> x.at(0, 0), fish - caught);
    }

    private static void slams() {
        says("Terms II", "a storm SLAMS it in as many of ten as told, 0 .. 10, 1 without;");
        slammed("slams 0", 0);
        slammed("slams 0-1", 0);
        slammed("slams 9", 9);
        slammed("slams 10", 10);
        slammed("slams 11", 10);
        slammed("slams 1000", 10);
        slammed("slams 3;slams 4", 4);
        slammed("catches 7", 1);
        slammed("slams 7 if 1=2", 1);
    }

    private static void fits() {
        says("Terms II", "it FITS a HOUSE, if the LAW in FORCE has a CLAUSE of \"fits\" and one HOLDS, without such a CLAUSE (or a LAW), if WIDE and SIZE are not more than 1 apart;");
        fresh(1, 3, 4, 5, 6, 7, 9);
        does(x -> x.door(5, 0, 0, 0));
        for (int twice : upTo(2)) {
            int[] fit = {0, 0, 1, 1, 1, 0, 0};
            for (int h : upTo(7)) due(x -> x.frame(h, 2), fit[h]);
            if (twice == 0) rule("catches 1;bars if 1=2");
        }
        rule("fits if size=9;fits if size=1");
        for (int h : upTo(7)) due(x -> x.frame(h, 2), h == 0 || h == 6 ? 1 : 0);
        rule("fits if 1=2");
        for (int h : upTo(7)) due(x -> x.frame(h, 2), 0);
        rule("fits if 1/0=1");
        for (int h : upTo(7)) due(x -> x.frame(h, 2), 0);
        rule("fits;fits if 1=2");
        for (int h : upTo(7)) due(x -> x.frame(h, 2), 1);
        does(x -> x.force(-1));
        due(x -> x.frame(0, 2), 0);
        fresh(1, 2, 8, 9);
        does(x -> x.door(9, 0, 0, 0));
        does(x -> x.door(1, 0, 1, 0));
        int[] fit = {0, 0, 1, 1, 1, 1, 0, 0};
        for (int h : upTo(4)) {
            due(x -> x.frame(h, 2), fit[h]);
            due(x -> x.frame(h, 3), fit[4 + h]);
        }
    }

    private static void bars() {
        says("Terms II", "it is BARRED, if \"bars\" HOLDS.");
        hung(5, 6);
        due(x -> x.of(0, 8), 0);
        rule("fits;slams 1");
        due(x -> x.of(0, 8), 0);
        rule("bars if wide=5;bars if wide=9");
        due(x -> x.of(0, 8), 1);
        due(x -> x.of(1, 8), 0);
        rule("bars if 1/0=1");
        due(x -> x.of(0, 8), 0);
        rule("bars");
        due(x -> x.of(0, 8), 1);
        due(x -> x.of(1, 8), 1);
        refused(x -> x.launch(0), -3);
        does(x -> x.force(0));
        granted(x -> x.launch(0), 0);
        // DOOR 0 HANGS in HOUSE 2, DOOR 1 in HOUSE 0.
        fresh(5, 6, 7);
        does(x -> x.door(6, 1, 2, 0));
        does(x -> x.door(4, 3, 0, 0));
        rule("bars if door=0 and wide=6 and wood=1 and home=2 and house=2 and size=7");
        due(x -> x.of(0, 8), 1);
        due(x -> x.of(1, 8), 0);
        rule("bars if door=1 and wide=4 and wood=3 and home=0 and house=0 and size=5");
        due(x -> x.of(0, 8), 0);
        due(x -> x.of(1, 8), 1);
    }

    // ---- ORDERS ----

    private static void ordersGrammar() {
        says("Terms II", "ORDERS: CLAUSE: (\"launch\" SUM | \"sail\" SUM \"by\" SUM | \"fish\" SUM | \"hang\" SUM \"in\" SUM | \"tide\") [\"times\" TIMES] [\"if\" TEST].");
        orders("launch 0;sail 0 by 2;fish 0;hang 0 in 0;tide", -1);
        String tail = " times 2 if 1=1";
        orders("launch 0" + tail + ";sail 0 by 2" + tail + ";fish 0" + tail + ";hang 0 in 0" + tail + ";tide" + tail, -1);
        orders("launch", 6);
        orders("launch by 1", 7);
        orders("launch 0 by 1", 9);
        orders("sail", 4);
        orders("sail 0", 6);
        orders("sail 0 1", 7);
        orders("sail 0 in 1", 7);
        orders("sail 0 by", 9);
        orders("sail 0 by by", 10);
        orders("sail by 1", 5);
        orders("fish", 4);
        orders("fish 0 in 0", 7);
        orders("hang 0", 6);
        orders("hang 0 by 1", 7);
        orders("hang 0 in", 9);
        orders("hang in 0", 5);
        orders("tide 0", 5);
        orders("tide times", 10);
        orders("tide if", 7);
        orders("tide times 2 times 2", 13);
        orders("tide if 1=1 times 2", 12);
        orders("tide if 1=1 if 1=1", 12);
        orders("fish times 2", 5);
        orders("fish if 1=1", 5);
        orders("catches 1", 0);
        orders("fits", 0);
        orders("bars", 0);
        orders("1", 0);
    }

    private static void ordersWords() {
        says("Terms II", "Words: \"day\" | \"done\" | \"latest\" | \"open\" | \"at\" D | \"house\" D | \"catch\" D (D: a NUMBER 0 .. 7).");
        for (String word : new String[] {"day", "done", "latest", "open"}) {
            orders("fish " + word, -1);
            orders("tide if " + word + "=" + word, -1);
            orders("fish " + word + " 0", 6 + word.length());
        }
        for (String word : new String[] {"at", "house", "catch"}) {
            int behind = 6 + word.length();
            orders("fish " + word + " 0", -1);
            orders("fish " + word + " 7", -1);
            orders("fish " + word + " 8", behind);
            orders("fish " + word + " 10", behind);
            orders("fish " + word + " 007", -1);
            orders("fish " + word + " 4294967296", behind);
            orders("fish " + word, behind - 1);
            orders("fish " + word + " -1", behind);
            orders("fish " + word + " day", behind);
            orders("fish " + word + " [1]", behind);
            orders("fish " + word + " 0 0", behind + 2);
        }
        String[] others = {"door", "wide", "wood", "home", "size", "cell", "fish", "mood", "launch", "sail", "hang",
            "tide", "by", "in", "times", "if", "or", "and", "not", "x"};
        for (String other : others) orders("fish " + other, 5);
    }

    private static void times() {
        says("Terms II", "TIMES: a NUMBER 1 .. 20.");
        orders("tide times 0", 11);
        orders("tide times 21", 11);
        orders("tide times 1000", 11);
        orders("tide times 4294967297", 11);
        orders("tide times -1", 11);
        orders("tide times day", 11);
        orders("tide times [2]", 11);
        orders("tide times 2+2", 12);
        orders("tide times 1", -1);
        orders("tide times 020", -1);
        fresh();
        ran("tide times 1", 1);
        ran("tide times 20", 20);
        due(x -> x.count(14), 21);
        says("Terms II", "each as often as TIMES tell (once without);");
        ran("tide", 1);
        ran("tide times 2;tide times 3;tide", 6);
        due(x -> x.count(14), 28);
        ran(again("tide times 20", 12, ";"), 240);
        due(x -> x.count(14), 268);
        due(x -> x.count(6), 16);
    }

    private static void doors() {
        says("Terms II", "(a DOOR; a DOOR, a DRIFT 1 .. 4; a DOOR; a DOOR, a HOUSE.)");
        hung(5, 5);
        ended("launch 2", 0);
        ended("launch 0-1", 0);
        ended("launch 8", 0);
        ended("launch 1000*1000*1000", 0);
        ended("fish 0", 0);
        ended("fish 2", 0);
        ended("sail 0 by 2", 0);
        ended("hang 0 in 0", 0);
        ran("launch 1-1", 1);
        ended("sail 0 by 0", 0);
        ended("sail 0 by 1", 0);
        ended("sail 0 by 4", 0);
        ended("sail 0 by 5", 0);
        ended("sail 0 by 0-1", 0);
        ran("sail 0 by 2;sail 0 by 3;sail 0 by 4;sail 0 by 1", 4);
        ended("hang 0 in 1", 0);
        ended("hang 0 in 2", 0);
        ended("hang 0 in 0-1", 0);
        ended("hang 2 in 0", 0);
        ran("hang 0 in 0", 1);
    }

    private static void partsOfOrders() {
        says("Terms II", "D, TIMES aside, NUMBERS and words count as PARTS.");
        orders("fish " + again("at 0", 50, "+"), -1);
        orders("fish " + again("at 0", 50, "+") + " times 20", -1);
        orders("fish " + again("at 0", 51, "+"), 255);
        orders("fish " + again("at 0", 50, "+") + "+at 9", 255);
        orders("fish " + again("at 0", 49, "+") + "+at 9", 253);
        orders("fish " + again("1", 50, "+"), -1);
        orders("fish " + again("1", 51, "+"), 105);
        orders("fish " + again("1", 49, "+") + ";sail 0 by 1", 113);
        orders("fish " + again("1", 48, "+") + ";sail 0 by 1", -1);
        orders("fish " + again("1", 50, "+") + ";tide times 20", -1);
        orders("fish " + again("1", 50, "+") + ";tide if day=1", 113);
    }

    private static void runs() {
        says("Terms II", "Run CLAUSE by CLAUSE,");
        launched(5);
        ran("sail 0 by 2;sail 0 by 3;fish 0;sail 0 by 4;sail 0 by 1;tide;fish 0 times 2", 8);
        due(x -> x.of(0, 5), 0);
        due(x -> x.of(0, 6), 21);
        due(x -> x.at(6, 0), 1);
        due(x -> x.at(0, 0), 0);
        due(x -> x.count(14), 1);
    }

    private static void ifs() {
        says("Terms II", "each time its \"if\" is asked (not run, if it is not so or BROKEN), then its SUMS from the left.");
        hung(5);
        ran("fish 9 if 1=2", 0);
        ran("fish 9 if 1/0=1", 0);
        ran("fish 1/0 if 1=2", 0);
        ran("sail 0 by 1/0 times 20 if 1/0=0", 0);
        ran("tide times 20 if day < 7", 7);
        ran("tide times 20 if done < 2;tide times 5 if done = 2", 3);
        ended("fish 9 if 1=1", 0);
        ended("launch 0 times 2", 0);
        ran("launch 0 times 2 if house 0=0", 1);
        ran("sail 0 by 2+at 0%5/4 times 20 if at 0<24", 8);
        due(x -> x.of(0, 5), 24);
        due(x -> x.count(6), 16);
    }

    private static void facts() {
        says("Terms II", "done: how many were run in this TEXT,");
        fresh();
        ran("tide if done=0;tide if done=9;tide if done=1;tide times 3;tide if done=5", 6);
        ran("tide if done=0", 1);

        says("Terms II", "latest: what the latest fishing in it caught (-1: none),");
        launched(5);
        does(x -> x.put(0, 0, 17));
        ran("tide if latest=0-1;fish 0;tide if latest=15;fish 0;tide if latest=4;fish 0;tide if latest=1", 7);
        ran("tide if latest=0-1", 1);
        does(x -> x.put(0, 0, 0));
        ran("fish 0;tide if latest=0", 2);

        says("Terms II", "open: how many HOUSES are,");
        hung(5, 5);
        does(x -> x.house(5));
        ran("tide if open=1;launch 0;tide if open=2;launch 1;tide if open=3;hang 0 in 2;tide if open=2", 7);

        says("Terms II", "at: the CELL of a DOOR (-1: not at SEA),");
        hung(5, 5);
        does(x -> x.put(5, 1, 4));
        ran("tide if at 0=0-1;launch 0;tide if at 0=0;sail 0 by 3;tide if at 0=5;fish 1 if at 0>0-1;tide if at 0=0-1;tide if at 7=0-1", 7);

        says("Terms II", "house: in which it HANGS (-1: none),");
        hung(5, 5);
        ran("tide if house 1=1;launch 1;tide if house 1=0-1;launch 0;hang 1 in 0;tide if house 1=0;tide if house 0=0-1;tide if house 2=0-1", 8);

        says("Terms II", "catch: 0 without such a DOOR.");
        hung(5);
        ran("tide if catch 0=0;tide if catch 1=0 and catch 7=0;launch 0;fish 0;tide if catch 0=12;hang 0 in 0;tide if catch 0=0", 7);
        fresh();
        ran("tide if at 0=0-1 and house 0=0-1 and catch 0=0 and day=0;tide if day=1", 2);
    }

    private static void stops() {
        says("Terms II", "One that can't be (a BROKEN SUM, as launch(), sail(), fish(), hang(), tide() are REFUSED) ends it: all is as it was ahead of it.");
        hung(5, 5, 6);
        rule("bars if wide=6");
        does(x -> x.launch(0));
        does(x -> x.fish(0));
        ended("tide;launch 1;fish 1;sail 1 by 2;fish 1;sail 0 by 3;hang 0 in 0;fish 9", 6);
        ended("hang 0 in 0;tide;launch 2", 2);
        ended("tide times 3;sail 0 by 2 times 5", 1);
        ended("tide;fish 1/0", 1);
        ended("tide;sail 0 by 1/0", 1);
        ended("tide;sail 1/0 by 1", 1);
        ended("tide;hang 0 in 1000*1000*1000*1000", 1);
        ended(again("tide times 20", 11, ";") + ";fish 1", 11);
        does(x -> x.put(0, 1, 1));
        does(x -> x.image(0));
        ended("tide;fish 0", 1);
        due(x -> x.of(0, 7), 0);
        does(x -> x.terms(0, 980));
        ended("tide times 20;tide", 0);
        ran("tide times 19", 19);
        ended("tide", 0);
        // Sixteen that can be undone stay just these.
        hung(5);
        for (int n = 0; n < 20; n++) does(x -> x.tide());
        ended(again("tide times 20", 11, ";") + ";launch 0 times 20", 11);
        due(x -> x.count(6), 16);
        due(x -> x.count(14), 20);
        for (int n = 0; n < 16; n++) granted(x -> x.undo(), 4);
        due(x -> x.count(14), 4);
        due(x -> x.at(0, 0), 14);
        refused(x -> x.undo(), -3);
    }

    private static void longestOrders() {
        says("Terms II", "Run CLAUSE by CLAUSE, each as often as TIMES tell");
        launched(5);
        does(x -> x.put(0, 0, 99));
        String there = "sail 0 by 2 times 4;sail 0 by 4 times 4";
        ran(again(there, 6, ";"), 48);
        ran("fish 0 times 20;" + again("tide times 20", 11, ";"), 240);
        due(x -> x.count(14), 220);
        due(x -> x.of(0, 6), 99);
        ended("tide times 20;" + again(there, 5, ";") + ";sail 0 by 2 times 5", 11);
        due(x -> x.count(14), 220);
    }

    /** Sixteen that can be undone ahead of 240 ORDERS: the last of them can't be (at DAY 999), then all can. */
    private static void longestBehindSixteen() {
        says("Terms II", "ends it: all is as it was ahead of it.");
        launched(5);
        does(x -> x.terms(0, 752));
        for (int n : upTo(16)) does(x -> n % 2 == 0 ? x.tide() : x.fish(0));
        ended(again("tide times 20", 12, ";"), 11);
        due(x -> x.count(14), 760);
        for (int n = 15; n >= 0; n--) {
            int left = n;
            due(x -> x.count(6), left + 1);
            granted(x -> x.undo(), left % 2 == 0 ? 4 : 2);
        }
        refused(x -> x.undo(), -3);
        due(x -> x.count(14), 752);
        due(x -> x.of(0, 6), 0);
        does(x -> x.terms(0, 751));
        for (int n : upTo(16)) does(x -> n % 2 == 0 ? x.tide() : x.fish(0));
        ran(again("tide times 20", 12, ";"), 240);
        due(x -> x.count(14), 999);
        for (int n : upTo(16)) {
            granted(x -> x.undo(), 4);
            due(x -> x.count(14), 998 - n);
        }
        refused(x -> x.undo(), -3);
    }

    /** One TEXT leaves nothing to the next: sixty of the longest kind in one object. */
    private static void manyTexts() {
        says("Terms II", "50 PARTS that are NUMBERS and words (FAULT at the 51st), 8 brackets of both kinds within one another (FAULT at the 9th) at most.");
        fresh();
        String text = "tide if " + again("1", 49, "+") + "=49";
        for (int n = 0; n < 60; n++) {
            tell(text);
            granted(x -> x.orders(), 1);
        }
        due(x -> x.count(14), 60);
        for (int n = 0; n < 30; n++) {
            tell("slams [[[[[[[[[");
            unread(x -> x.law(), -6, 14, -1);
            tell("fits if ((((((((1=1))))))));" + "fits;".repeat(11));
            unread(x -> x.law(), -6, 83, -1);
        }
        rule("slams " + again("1", 50, "+"));
    }
}
