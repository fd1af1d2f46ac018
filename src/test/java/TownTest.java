/** Promises 1 to 13: the town, its texts, cells, people, planks and sheets. */
public final class TownTest {
    private static final Tester T = new Tester("TownTest");

    public static void main(String[] args) {
        newObject();
        sign();
        end();
        town();
        folk();
        folkLimits();
        rule();
        ruleValues();
        route();
        cell();
        person();
        build();
        plank();
        take();
        sheet();
        T.finish();
    }

    private static void newObject() {
        WomenByTheRoofs x = new WomenByTheRoofs();
        T.due("1 NONE", WomenByTheRoofs.NONE, -1);
        int[] want = {1, 1, 0, 0, 0, 0, 0, 0, 0, -1, 0, 0, 0};
        for (int what = 0; what < want.length; what++) {
            T.due("1 count(" + what + ")", x.count(what), want[what]);
        }
        T.due("1 its cell is a stair", x.cell(0, 0), 3);
        T.due("1 steps below", x.cell(0, 4), 0);
        T.due("1 pieces below", x.pieces(0), 1);
        T.due("1 pieces above", x.pieces(1), 1);
        T.due("1 reach", x.reach(1, 0), 1);
        T.due("1 nothing kept", x.again(0), false);
        T.due("1 no people", x.tell(0), -1);
        T.due("1 path", x.path(0, 0, 0), 0);
    }

    private static void sign() {
        WomenByTheRoofs x = new WomenByTheRoofs();
        for (int i = 1; i <= 20; i++) {
            T.due("2 sign " + i, x.sign(0x2e2e2e2e), 4 * i);
        }
        T.due("2 over 80", x.sign(1), -1);
        T.due("2 still 80", x.count(12), 80);
        x.end(77);
        T.due("2 77 and four", x.sign(1), -1);
        x.end(76);
        T.due("2 76 and four", x.sign(1), 80);
        x.end(0);
        x.sign(0x2e68732f);
        x.end(3);
        T.due("2 highest byte first", x.town(), 3);
        T.due("2 first sign", x.cell(0, 0), 1);
        T.due("2 second sign", x.cell(1, 0), 2);
        T.due("2 third sign", x.cell(2, 0), 3);
        x.sign(0x80ff8080);
        T.due("2 signs above 127", x.town(), -1);
    }

    private static void end() {
        WomenByTheRoofs x = new WomenByTheRoofs();
        T.due("3 end(0) of none", x.end(0), true);
        T.due("3 end(1) of none", x.end(1), false);
        T.due("3 end(-1)", x.end(-1), false);
        x.sign(0x2e68732f);
        T.due("3 too many", x.end(5), false);
        T.due("3 unchanged", x.count(12), 4);
        T.due("3 all", x.end(4), true);
        T.due("3 two", x.end(2), true);
        T.due("3 has two", x.count(12), 2);
        T.due("3 not three again", x.end(3), false);
        T.due("3 the first two", x.town(), 2);
    }

    private static void town() {
        WomenByTheRoofs x = new WomenByTheRoofs();
        T.due("4 empty", Tester.town(x, ""), -1);
        T.due("4 bad sign", Tester.town(x, "..x"), -3);
        T.due("4 slash first", Tester.town(x, "/."), -1);
        T.due("4 ends behind slash", Tester.town(x, "../"), -4);
        T.due("4 slash behind slash", Tester.town(x, "..//"), -4);
        T.due("4 shorter row ends", Tester.town(x, ".../.."), -7);
        T.due("4 shorter row, slash", Tester.town(x, ".../../"), -7);
        T.due("4 longer row", Tester.town(x, "../..."), -6);
        T.due("4 seventh sign", Tester.town(x, "......."), -7);
        T.due("4 seventh sign, any", Tester.town(x, "......?"), -7);
        T.due("4 seventh row", Tester.town(x, "./././././././."), -13);
        T.due("4 seventh row, its end", Tester.town(x, "././././././"), -13);
        T.due("4 nothing of it", x.count(0), 1);
        T.due("4 largest", Tester.town(x, "....../hhhhhh/ssssss/######/.hs#.h/....##"), 36);
        T.due("4 wide", x.count(1), 6);
        T.due("4 neither", x.cell(18, 0), 0);
        T.due("4 text is emptied", x.count(12), 0);
        T.due("4 one column", Tester.town(x, "s/./h/#/s/."), 6);
        T.due("4 one wide", x.count(1), 1);
        T.due("4 one row", Tester.town(x, "s.h#s."), 6);
        T.due("4 six wide", x.count(1), 6);

        WomenByTheRoofs y = Tester.made("sh.h", "w0:r;m0:o");
        y.plank(1, 3);
        y.tell(0);
        y.fire(2);
        y.minute();
        y.feast(1);
        y.keep(0);
        Tester.rule(y, "0");
        T.due("4 refused", Tester.town(y, "?"), -1);
        T.due("4 refused keeps all", y.count(2) + y.count(3) + y.count(4) + y.count(6) + y.count(7), 8);
        T.due("4 refused keeps undo", y.count(10), 4);
        T.due("4 anew", Tester.town(y, "sss"), 3);
        for (int what = 2; what <= 8; what++) {
            T.due("4 none of count(" + what + ")", y.count(what), 0);
        }
        T.due("4 no fire", y.count(9), -1);
        T.due("4 no undo", y.count(10), 0);
        T.due("4 nothing kept", y.again(0), false);
        Tester.folk(y, "m0:r");
        T.due("4 the rule stays", y.person(0, 7), 0);
    }

    private static void folk() {
        WomenByTheRoofs x = new WomenByTheRoofs();
        Tester.town(x, ".h/s#");
        T.due("5 empty", Tester.folk(x, ""), 0);
        T.due("5 no kind", Tester.folk(x, "x0:u"), -1);
        T.due("5 ends behind kind", Tester.folk(x, "m"), -2);
        T.due("5 no digit", Tester.folk(x, "m:u"), -2);
        T.due("5 no colon", Tester.folk(x, "m0u"), -3);
        T.due("5 third digit", Tester.folk(x, "m000:u"), -4);
        T.due("5 no such cell", Tester.folk(x, "m9:u"), -2);
        T.due("5 no such cell of two digits", Tester.folk(x, "m04:u"), -3);
        T.due("5 no such cell, ends", Tester.folk(x, "m9"), -2);
        T.due("5 a man on a house", Tester.folk(x, "m1:u"), -2);
        T.due("5 a woman on a street", Tester.folk(x, "w0:u"), -2);
        T.due("5 nobody on neither", Tester.folk(x, "w3:u"), -2);
        T.due("5 a stair is of both", Tester.folk(x, "w2:u;m02:d"), 2);
        T.due("5 no route", Tester.folk(x, "m0:"), -4);
        T.due("5 bad route", Tester.folk(x, "m0:;"), -4);
        T.due("5 bad sign in a route", Tester.folk(x, "m0:ux"), -5);
        T.due("5 tenth sign", Tester.folk(x, "m0:urdlourdlo"), -13);
        T.due("5 nine signs", Tester.folk(x, "m0:urdlourdl"), 1);
        T.due("5 ends behind ;", Tester.folk(x, "m0:u;"), -6);
        T.due("5 nothing of a bad one", Tester.folk(x, "m0:u;w1:r;w0:l"), -12);
        T.due("5 three are there", x.count(2), 3);
        T.due("5 five more", Tester.folk(x, "m0:u;m0:u;m0:u;w1:u;w1:r"), 5);
        T.due("5 no room", Tester.folk(x, "m0:u"), -1);
        T.due("5 no room for nobody", Tester.folk(x, ""), 0);
        T.due("5 women", x.count(5), 0b11000001);
        T.due("5 text is emptied", x.count(12), 0);
        T.due("5 cell", x.person(0, 1), 2);
        T.due("5 level of a woman", x.person(0, 2), 1);
        T.due("5 level of a man", x.person(1, 2), 0);
        T.due("5 a route's length", x.person(2, 4), 9);
        T.due("5 first place", x.person(7, 3), 0);
        T.due("5 no news", x.person(7, 5), 0);

        WomenByTheRoofs y = Tester.made("s", "m0:u;m0:u;m0:u;m0:u;m0:u;m0:u;m0:u");
        T.due("5 eighth has room, ninth none", Tester.folk(y, "m0:u;m0:u"), -6);
        T.due("5 nothing came", y.count(2), 7);
        T.due("5 any sign for a ninth", Tester.folk(y, "m0:u;?"), -6);
    }

    private static void folkLimits() {
        String line = "m0:urdlourdl;";
        WomenByTheRoofs x = new WomenByTheRoofs();
        Tester.town(x, "...");
        String five = Tester.repeat(line, 5);
        T.due("5 76 signs", Tester.folk(x, five + "m0:urdlouro"), 6);
        Tester.town(x, "...");
        T.due("5 77 signs", Tester.folk(x, five + "m0:urdlouroo"), -77);
        T.due("5 77 signs, the last bad", Tester.folk(x, five + "m0:urdlouro?"), -77);
        T.due("5 80 signs", Tester.folk(x, five + "m0:urdlouroo;m0"), -77);
        T.due("5 a fault ahead of 76", Tester.folk(x, five + "m0:urdlour?o"), -76);
        T.due("5 75 signs that end too early", Tester.folk(x, five + "m0:urdlou;"), -76);
        T.due("5 76 in the midst", Tester.folk(x, five + "m0:urdlou;m0:o"), -77);
        T.due("5 ; is the last that counts", Tester.folk(x, five + "m0:urdlour;m0:u"), -77);
        Tester.town(x, "hhhhhh/hhhhhh/......");
        String full = Tester.repeat("m12:urdlourdl;", 4) + "m12:urdlou;";
        T.due("5 first digit at 74", Tester.folk(x, full + "m12:r;m1:r"), -75);
        String shifted = full + "m12:rr;";
        T.due("5 first digit at 75, could go on", Tester.folk(x, shifted + "m1:r"), -77);
        T.due("5 first digit at 75, could go on to a cell", Tester.folk(x, shifted + "m12:r"), -77);
        T.due("5 first digit at 75, could not go on", Tester.folk(x, shifted + "m9:r"), -76);
        T.due("5 first digit at 75, ends there", Tester.folk(x, shifted + "m1"), -76);
        Tester.town(x, "hhhhhh/hhhh.h");
        String ten = shifted.replace("m12", "m10");
        T.due("5 first digit at 75, of a cell at the edge", Tester.folk(x, ten + "m1:r"), -77);
    }

    private static void rule() {
        WomenByTheRoofs x = Tester.made("s", "m0:u");
        String[] good = {"m", "1", "999", "-1", "---m", "(m)", "((((m))))", "m+i-w*x/y", "m<1", "(m<1)<1",
            "(m<1)=(i>2)", "m*-1", "m--1", "n+s+k", "-(1)", "(1)(".substring(0, 3), "((1)+(2))", ""};
        for (String text : good) {
            T.due("6 " + text, Tester.rule(x, text), 0);
        }
        String[] bad = {"z", "+", "*1", ")", "m)", "m+", "m+*1", "(m", "()", "m<x<y", "m<x=y", "1<(2)>3",
            "(((((m)))))", "1000", "1234", "m1", "1m", "mm", "m(1)", "(1)1", "(1)(2)", "-", "m+(", "1 +1",
            "(1<2<3)", "<1", "a", "--"};
        int[] where = {0, 0, 0, 0, 1, 2, 2, 2, 1, 3, 3, 5, 4, 3, 3, 1, 1, 1, 1, 3, 3, 1, 3, 1, 4, 0, 0, 2};
        for (int i = 0; i < bad.length; i++) {
            T.due("6 " + bad[i], Tester.rule(x, bad[i]), -1 - where[i]);
        }
        x.sign(964596426);
        T.due("6 a sign of no rule behind a number", x.rule(), -2);
        T.due("6 text is emptied", x.count(12), 0);
        T.due("6 40 signs", Tester.rule(x, Tester.repeat("-", 39) + "1"), 0);
        T.due("6 41 signs", Tester.rule(x, Tester.repeat("-", 40) + "1"), -41);
        T.due("6 41 signs that could end", Tester.rule(x, Tester.repeat("1+", 19) + "11?"), -41);
        T.due("6 40 signs that end too early", Tester.rule(x, Tester.repeat("1+", 20)), -41);
        T.due("6 a fault at 39", Tester.rule(x, Tester.repeat("1+", 19) + "1?1"), -40);
        T.due("6 an open bracket at 40", Tester.rule(x, "(" + Tester.repeat("1+", 19) + "11"), -41);
        Tester.rule(x, "0");
        T.due("6 a bad one changes nothing", Tester.rule(x, "1?"), -2);
        T.due("6 it is as before", x.person(0, 7), 0);
        T.due("6 none", Tester.rule(x, ""), 0);
        T.due("6 goes without", x.person(0, 7), 1);
    }

    private static void goes(WomenByTheRoofs x, String text, int person, boolean want) {
        T.due("6 reads " + text, Tester.rule(x, text), 0);
        T.due("6 " + text + " of " + person, x.person(person, 7), want ? 1 : 0);
    }

    private static void same(WomenByTheRoofs x, String left, String right) {
        goes(x, "(" + left + ")=(" + right + ")", 0, true);
    }

    private static void ruleValues() {
        WomenByTheRoofs x = Tester.made("s.h/..s/ssh", "m4:o;w5:o;m5:o;m5:o;w2:o");
        same(x, "2+3*4", "14");
        same(x, "2*3+4", "10");
        same(x, "9-3-2", "4");
        same(x, "9-(3-2)", "8");
        same(x, "24/4/2", "3");
        same(x, "24/4*2", "12");
        same(x, "7/0", "0");
        same(x, "-7/2", "-3");
        same(x, "7/-2", "-3");
        same(x, "-2*3", "-6");
        same(x, "2--3", "5");
        same(x, "--5", "5");
        same(x, "1<2", "1");
        same(x, "2<1", "0");
        same(x, "2>1", "1");
        same(x, "1<1", "0");
        same(x, "1>1", "0");
        same(x, "1=2", "0");
        same(x, "1+1=2", "1");
        same(x, "1<2+5", "1");
        same(x, "5-(1<2)", "4");
        same(x, "007", "7");
        same(x, "-(2+3)*2", "-10");
        same(x, "m", "0");
        goes(x, "i=3", 3, true);
        goes(x, "w", 0, false);
        goes(x, "w", 1, true);
        goes(x, "x=1", 0, true);
        goes(x, "y=1", 0, true);
        goes(x, "x=2", 4, true);
        goes(x, "y", 4, false);
        goes(x, "n", 0, false);
        goes(x, "n=1", 2, true);
        goes(x, "n", 1, false);
        goes(x, "s", 0, false);
        goes(x, "s", 2, true);
        goes(x, "k", 2, false);
        x.tell(2);
        goes(x, "k", 2, true);
        goes(x, "k", 0, false);
        same(x, "999*999*999*999", "999*999*999*999+0");
        goes(x, "999*999*999>0", 0, 999 * 999 * 999 > 0);
        goes(x, "999*999*999*999>0", 0, 999 * 999 * 999 * 999 > 0);
        x.minutes(7);
        goes(x, "m=7", 0, true);
    }

    private static void route() {
        WomenByTheRoofs x = Tester.made("..", "m0:rl;m1:l");
        x.tell(0);
        x.minute();
        T.due("7 place ahead", x.person(0, 3), 1);
        T.due("7 none such", Tester.route(x, 2, "u"), -100);
        T.due("7 none such, asked first", Tester.route(x, -1, "?"), -100);
        T.due("7 text is emptied", x.count(12), 0);
        T.due("7 none", Tester.route(x, 0, ""), -1);
        T.due("7 bad", Tester.route(x, 0, "urx"), -3);
        T.due("7 a tenth", Tester.route(x, 0, "urdlourdlo"), -10);
        T.due("7 a tenth, any", Tester.route(x, 0, "urdlourdl?"), -10);
        T.due("7 bad ones change nothing", x.person(0, 4), 2);
        T.due("7 nor what can be undone", x.count(10), 2);
        x.keep(0);
        T.due("7 nine", Tester.route(x, 0, "urdlourdl"), 9);
        T.due("7 from its first place", x.person(0, 3), 0);
        T.due("7 its length", x.person(0, 4), 9);
        T.due("7 forgets undo", x.count(10), 0);
        T.due("7 spoils what is kept", x.again(0), false);
        T.due("7 other's", x.person(1, 4), 1);
        T.due("7 one", Tester.route(x, 0, "l"), 1);
        x.minute();
        T.due("7 it is gone by", x.person(0, 1), 0);
        T.due("7 where it goes on", x.person(0, 3), 0);
    }

    private static void cell() {
        WomenByTheRoofs x = Tester.made("sh#/.hs/h.h", "m0:r;w0:r;w1:o;m3:o;m5:o;w8:o");
        int[] kinds = {3, 2, 0, 1, 2, 3, 2, 1, 2};
        int[] below = {1, 0, 0, 8, 0, 16, 0, 0, 0};
        int[] above = {2, 4, 0, 0, 0, 0, 0, 0, 32};
        int[] stepsBelow = {1, 0, 0, 1, 0, 0, 0, 0, 0};
        int[] stepsAbove = {1, 2, 0, 0, 2, 2, 0, 0, 1};
        for (int i = 0; i < 9; i++) {
            T.due("8 kind of " + i, x.cell(i, 0), kinds[i]);
            T.due("8 below on " + i, x.cell(i, 1), below[i]);
            T.due("8 above on " + i, x.cell(i, 2), above[i]);
            T.due("8 planks at " + i, x.cell(i, 3), 0);
            T.due("8 steps below from " + i, x.cell(i, 4), stepsBelow[i]);
            T.due("8 steps above from " + i, x.cell(i, 5), stepsAbove[i]);
        }
        T.due("8 lays 0-6", x.plank(0, 6), 0);
        T.due("8 lays 6-8", x.plank(8, 6), 1);
        T.due("8 ends at 6", x.cell(6, 3), 3);
        T.due("8 ends at 8", x.cell(8, 3), 2);
        T.due("8 none at 7", x.cell(7, 3), 0);
        T.due("8 steps over planks", x.cell(6, 5), 2);
        T.due("8 not below", x.cell(6, 4), 0);
        T.dueNone("8 cell(-1, 0)", () -> x.cell(-1, 0));
        T.dueNone("8 cell(9, 0)", () -> x.cell(9, 0));
        T.dueNone("8 cell(0, -1)", () -> x.cell(0, -1));
        T.dueNone("8 cell(0, 6)", () -> x.cell(0, 6));
        T.dueNone("8 cell(least, 0)", () -> x.cell(Integer.MIN_VALUE, 0));
        T.dueNone("8 cell(most, 0)", () -> x.cell(Integer.MAX_VALUE, 0));
    }

    private static void person() {
        WomenByTheRoofs x = Tester.made("s.s", "m0:rrl;w2:o;m2:o");
        x.tell(2);
        x.minutes(2);
        int[][] want = {{0, 2, 0, 2, 3, 1, 1, 1}, {1, 2, 1, 0, 1, 1, 3, 1}, {0, 2, 0, 0, 1, 1, 2, 1}};
        for (int who = 0; who < 3; who++) {
            for (int what = 0; what < 8; what++) {
                T.due("9 person(" + who + ", " + what + ")", x.person(who, what), want[who][what]);
            }
        }
        x.feast(1);
        T.due("9 below on a feast", x.person(1, 2), 0);
        T.due("9 goes on a feast", x.person(1, 7), 1);
        Tester.folk(x, "w0:r");
        T.due("9 came on a feast", x.person(3, 2), 1);
        T.due("9 does not go on it", x.person(3, 7), 0);
        T.dueNone("9 person(-1, 0)", () -> x.person(-1, 0));
        T.dueNone("9 person(4, 0)", () -> x.person(4, 0));
        T.dueNone("9 person(8, 0)", () -> x.person(8, 0));
        T.dueNone("9 person(0, 8)", () -> x.person(0, 8));
        T.dueNone("9 person(0, -1)", () -> x.person(0, -1));
    }

    private static void build() {
        WomenByTheRoofs x = Tester.made("sh.h.s/#.....", "m0:r;w1:o;w5:o");
        T.due("10 no such cell", x.build(12, 0), -1);
        T.due("10 no such cell below 0", x.build(-1, 0), -1);
        T.due("10 another kind", x.build(6, 4), -1);
        T.due("10 another kind below 0", x.build(6, -1), -1);
        T.due("10 a man is there", x.build(0, 2), -1);
        T.due("10 a man can stay", x.build(0, 1), 3);
        T.due("10 a woman is there", x.build(1, 1), -1);
        T.due("10 a woman can stay", x.build(1, 3), 2);
        T.due("10 a woman is on a stair", x.build(5, 1), -1);
        T.due("10 it can be a house", x.build(5, 2), 3);
        x.build(5, 3);
        x.plank(1, 3);
        T.due("10 a plank can be undone", x.count(10), 1);
        T.due("10 a plank ends there", x.build(3, 1), -1);
        T.due("10 a plank lies over it", x.build(2, 2), -1);
        T.due("10 a stair neither", x.build(2, 3), -1);
        T.due("10 refused ones forget nothing", x.count(10), 1);
        T.due("10 neither is fine", x.build(2, 0), 1);
        T.due("10 it forgets", x.count(10), 0);
        T.due("10 a stair holds the plank", x.build(3, 3), 2);
        T.due("10 the same again", x.build(3, 3), 3);
        T.due("10 steps are new", x.cell(3, 4), 2);
        T.due("10 beside a plank", x.build(8, 2), 1);
        T.due("10 the plank stays", x.count(4), 1);
        x.feast(1);
        T.due("10 a woman below on a feast", x.build(5, 2), -1);
        T.due("10 a street will do", x.build(5, 1), 3);
    }

    private static void plank() {
        WomenByTheRoofs x = Tester.made("h.h.s/..#.h/h.hhh", "");
        T.due("11 no such cell", x.plank(0, 15), -1);
        T.due("11 no such cell below 0", x.plank(-1, 0), -1);
        T.due("11 one cell", x.plank(0, 0), -2);
        T.due("11 beside", x.plank(12, 13), -2);
        T.due("11 no roof", x.plank(1, 3), -2);
        T.due("11 one is no roof", x.plank(0, 6), -2);
        T.due("11 a roof between", x.plank(4, 14), -2);
        T.due("11 roof between in a row", x.plank(12, 14), -2);
        T.due("11 too far", x.plank(0, 4), -2);
        T.due("11 not straight", x.plank(0, 12), -2);
        T.due("11 round the edge", x.plank(4, 10), -2);
        T.due("11 in a row", x.plank(0, 2), 0);
        T.due("11 one is there", x.plank(0, 2), -3);
        T.due("11 the other way round", x.plank(2, 0), -3);
        T.due("11 in a column over neither", x.plank(12, 2), 1);
        T.due("11 to a stair", x.plank(2, 4), 2);
        T.due("11 a column over a street", x.plank(0, 10), 3);
        T.due("11 in the last row", x.plank(10, 12), 4);
        T.due("11 can be undone", x.count(10), 5);
        Tester.town(x, "h.h.h/...../h.h.h/...../h.h.h");
        int[] ones = {0, 2, 10, 12, 20, 22};
        for (int i = 0; i < 6; i++) {
            T.due("11 plank " + i, x.plank(ones[i], ones[i] + 2), i);
        }
        T.due("11 six are there", x.plank(0, 10), -4);
        T.due("11 one is there, asked first", x.plank(2, 0), -3);
        T.due("11 no such roofs, asked first", x.plank(0, 1), -2);
        T.due("11 six", x.count(4), 6);
        T.due("11 refused ones are not undone", x.count(10), 6);
        Tester.town(x, "h..");
        T.due("11 the second is no roof", x.plank(0, 2), -2);
        T.due("11 the first is no roof", x.plank(2, 0), -2);
        Tester.town(x, "h/./h");
        T.due("11 one wide", x.plank(2, 0), 0);
        T.due("11 goes up", x.path(1, 2, 0), 1);
        T.dueRow("11 up", x, 0);
        Tester.town(x, "h.h");
        T.due("11 one high", x.plank(2, 0), 0);
        x.path(1, 2, 0);
        T.dueRow("11 left", x, 3);
        Tester.town(x, "#h#/h.h/#h#");
        T.due("11 across", x.plank(3, 5), 0);
        T.due("11 across that", x.plank(1, 7), 1);
        T.due("11 they do not join", x.pieces(1), 2);
    }

    private static void take() {
        WomenByTheRoofs x = Tester.made("h.h.h", "w0:r");
        T.due("12 none", x.take(), -1);
        x.plank(0, 2);
        x.plank(2, 4);
        T.due("12 the latest", x.take(), 1);
        T.due("12 the first is left", x.cell(0, 3), 1);
        T.due("12 the latest is gone", x.cell(4, 3), 0);
        T.due("12 one can't go there", x.path(1, 2, 4), -2);
        T.due("12 one can go here", x.path(1, 0, 2), 1);
        T.due("12 can be undone", x.count(10), 3);
        T.due("12 the last", x.take(), 0);
        T.due("12 none again", x.take(), -1);
        T.due("12 refused is not undone", x.count(10), 4);
        x.plank(0, 2);
        x.minute();
        T.due("12 she stepped over", x.person(0, 1), 2);
        T.due("12 it may be taken then", x.take(), 0);
    }

    private static void sheet() {
        WomenByTheRoofs x = Tester.made("..", "m0:rlr;m0:r;m0:rlrlrlrlr;m0:lr");
        T.due("13 ints", x.sheet(2, 4, 0, 1), 0 + 0 + 2 + 1);
        T.due("13 place 2", x.person(2, 3), 2);
        T.due("13 place 3 is the last", x.person(3, 3), 1);
        T.due("13 fewer", x.sheet(2, 1, 2, 7), 2);
        T.due("13 those behind are 0", x.person(3, 3), 0);
        T.due("13 more than there are", x.sheet(2, 8, 1, 0), 1 + 0 + 1 + 1);
        T.due("13 nine", x.sheet(2, 9, 1, 0), -1);
        T.due("13 another kind", x.sheet(4, 1, 1, 0), -1);
        T.due("13 another kind below 0", x.sheet(-1, 1, 1, 0), -1);
        T.due("13 nine missing", x.sheet(3, 9, 1, 0), -1);
        T.due("13 another kind first", x.sheet(4, -1, 1, 0), -1);
        T.due("13 below 0", x.sheet(0, -1, 1, 0), -2);
        T.due("13 below 0, shorts", x.sheet(1, Integer.MIN_VALUE, 1, 0), -2);
        T.due("13 nothing changed", x.person(0, 3), 1);
        T.due("13 none", x.sheet(2, 0, 1, 0), 0);
        T.due("13 all 0", x.person(0, 3), 0);
        T.due("13 bytes with their sign", x.sheet(0, 4, 129, 0), 0);
        T.due("13 bytes' lowest bits", x.sheet(0, 3, 256 + 2, 0), 2 + 0 + 2);
        T.due("13 shorts with their sign", x.sheet(1, 4, 32768, 0), 0);
        T.due("13 shorts' lowest bits", x.sheet(1, 3, 65536 + 5, 0), 2 + 0 + 5);
        T.due("13 shorts hold 256", x.sheet(1, 3, 256, 0), 2 + 0 + 8);
        T.due("13 ints wrap round", x.sheet(2, 3, Integer.MAX_VALUE, 1), 2 + 0 + 0);
        T.due("13 steps below 0", x.sheet(2, 3, 8, -3), 2 + 0 + 2);
        T.due("13 missing", x.sheet(3, 3, 1, 1), -3);
        T.due("13 all 0 then", x.person(2, 3), 0);
        x.sheet(2, 3, 1, 0);
        T.due("13 missing, n below 0", x.sheet(3, -5, 1, 1), -3);
        T.due("13 all 0 then too", x.person(2, 3), 0);
        T.due("13 nothing to undo", x.count(10), 0);
        x.tell(0);
        x.keep(0);
        x.sheet(2, 3, 1, 0);
        T.due("13 forgets nothing", x.count(10), 1);
        T.due("13 spoils nothing", x.again(0), true);
        T.due("13 as kept", x.person(0, 3), 0);
        x.sheet(2, 1, 1, 0);
        x.minute();
        T.due("13 it goes on from there", x.person(0, 3), 2);
    }
}
