/** The sentences of the document's terms and of promises 1 to 13 that name an edge, each with tests of its own. */
public final class EdgesOfTownTest {
    private static final Tester T = new Tester("EdgesOfTownTest");
    private static final int LEAST = Integer.MIN_VALUE;
    private static final int MOST = Integer.MAX_VALUE;

    public static void main(String[] args) {
        stepsAtTheEdge();
        stepsOverPlanks();
        routesGoRound();
        ninthSteps();
        aNewObject();
        signs();
        ends();
        sidesOfATown();
        faultsOfATown();
        aTownAnew();
        cellsOfFolk();
        routesOfFolk();
        roomForFolk();
        lengthOfFolk();
        cellsCutOff();
        nothingOfFolk();
        lengthOfARule();
        thingsOfARule();
        nothingOfARule();
        qualities();
        intsOfARule();
        divisions();
        routes();
        cells();
        people();
        builtUpon();
        builtUnderPlanks();
        planksOfNoRoofs();
        sixPlanks();
        taken();
        sheetsThatWrap();
        sheetsThatEnd();
        T.finish();
    }

    // ---- terms

    /** "to the next CELL that is one": behind the map's edge there is none, nor is a row's end beside the next row. */
    private static void stepsAtTheEdge() {
        String[] ways = {"u", "r", "d", "l"};
        for (String way : ways) {
            WomenByTheRoofs one = Tester.made("s", "m0:" + way + ";w0:" + way);
            T.due("terms, a town of one cell: nobody steps " + way, one.minutes(5), 5);
            T.dueRow("terms, nobody steps " + way, one, 0, 0);
        }
        WomenByTheRoofs x = Tester.made("...../...../.....", "m4:r;m5:l;m9:r;m10:l;m0:u;m14:d");
        x.minute();
        T.dueRow("terms, all stand at an edge", x, 0, 0);
        WomenByTheRoofs w = Tester.made("hhh/hhh", "w2:r;w3:l;w0:u;w5:d");
        w.minute();
        T.dueRow("terms, above too", w, 0, 0);
        WomenByTheRoofs c = Tester.made("./././.", "m0:u;m3:d;m1:r;m1:l;m1:d");
        c.minute();
        T.dueRow("terms, a town one wide", c, 16, 0);
        T.due("terms, steps at corners and edges", w.cell(0, 5) * 100 + w.cell(1, 5) * 10 + w.cell(2, 5), 232);
        WomenByTheRoofs n = Tester.made(".h#s", "m0:r;w1:l;w1:r;m3:l");
        n.minute();
        T.dueRow("terms, a cell that is not of the net", n, 0, 0);
    }

    /** "over a PLANK, in its direction, to its other end (the CELL between them is not stepped on)". */
    private static void stepsOverPlanks() {
        WomenByTheRoofs x = Tester.made("#h#/h.h/#h#", "w1:d;w3:r;w5:l;w7:u;m4:urdl");
        T.due("terms, nobody can step", x.minutes(4), 0);
        T.dueRow("terms, nobody can step", x, 0, 0);
        x.plank(1, 7);
        x.minute();
        T.dueRow("terms, over the upright one", x, 0b01001, 0);
        T.due("terms, down to its other end", x.person(0, 1), 7);
        T.due("terms, up to its other end", x.person(3, 1), 1);
        x.plank(5, 3);
        x.minute();
        T.dueRow("terms, over the other one", x, 0b00110, 0);
        T.due("terms, right to its other end", x.person(1, 1), 5);
        T.due("terms, left to its other end", x.person(2, 1), 3);
        T.due("terms, one step leads there", x.cell(3, 5), 1);
        T.due("terms, none from the cell between them", x.cell(4, 5), 0);
        WomenByTheRoofs n = Tester.made("h.h", "w0:o;m1:o");
        n.plank(0, 2);
        Tester.route(n, 0, "r");
        n.tell(0);
        n.minute();
        T.dueRow("terms, the news falls from where she is, not from between", n, 1, 2);
    }

    /** "its place is the next one (behind the last the first), whether it could or not; one that does not go stays". */
    private static void routesGoRound() {
        WomenByTheRoofs x = Tester.made("...", "m0:rlorrllou;m0:u;m0:ro");
        for (int i = 0; i < 9; i++) {
            T.due("terms, place " + i, x.person(0, 3), i);
            T.due("terms, a route of one", x.person(1, 3), 0);
            T.due("terms, a route of two", x.person(2, 3), i % 2);
            x.minute();
        }
        T.due("terms, behind the last the first", x.person(0, 3), 0);
        Tester.rule(x, "i");
        x.minute();
        T.due("terms, one that does not go: its place stays", x.person(0, 3), 0);
        T.due("terms, it stays too", x.person(0, 1), 0);
        T.due("terms, one that goes: its place is the next one", x.person(2, 3), 0);
    }

    /** "a ROUTE of 1 to 9 signs", of the last of eight too. */
    private static void ninthSteps() {
        WomenByTheRoofs x = Tester.made("..", "m0:oooooooor" + ";m0:o".repeat(7));
        T.due("terms, the last one's ninth", Tester.route(x, 7, "oooooooor"), 9);
        x.minutes(8);
        T.dueRow("terms, eight signs o", x, 0, 0);
        x.minute();
        T.dueRow("terms, the ninth sign", x, 0b10000001, 0);
        T.due("terms, the first again", x.person(0, 3) + x.person(7, 3), 0);
        Tester.route(x, 7, "l");
        x.minute();
        T.dueRow("terms, a shorter one", x, 0b10000000, 0);
        Tester.route(x, 7, "oor");
        x.minutes(6);
        T.dueRow("terms, of three once", x, 1, 0);
    }

    // ---- 1 to 3

    private static void aNewObject() {
        WomenByTheRoofs x = new WomenByTheRoofs();
        T.due("1 of one cell", x.count(0), 1);
        T.due("1 a stair", x.cell(0, 0), 3);
        T.due("1 nobody", x.count(2), 0);
        T.dueNone("1 no second cell", () -> x.cell(1, 0));
        T.dueNone("1 no person", () -> x.person(0, 0));
        T.dueNone("1 no row", () -> x.row(0));
        T.due("1 no text: a town", x.town(), -1);
        T.due("1 no text: folk", x.folk(), 0);
        T.due("1 no text: a rule", x.rule(), 0);
        T.due("1 no text: an evening", x.evening(), 0);
        T.due("1 no text: a route", x.route(0), -100);
        T.due("1 nothing to undo", x.undo(), -1);
        T.due("1 no plank", x.take(), -1);
        T.due("1 nothing kept", x.again(0) || x.again(1), false);
        T.due("1 no fire", x.fire(0), -1);
        for (int level = 0; level < 2; level++) {
            int of = level;
            T.asked("1 one piece", x, () -> x.pieces(of), 1, 1, 0);
            T.asked("1 one cell to reach", x, () -> x.reach(of, 0), 1, 1, 0);
            T.asked("1 a thief on both levels", x, () -> x.flees(0, of, 1), 1, 1, 0, 1, 0);
        }
        WomenByTheRoofs y = new WomenByTheRoofs();
        T.due("1 of it a man and a woman can be on", Tester.folk(y, "m0:o;w0:o"), 2);
        T.due("1 one wide and one high", y.count(1) * 10 + y.count(0), 11);
        T.due("1 objects share nothing", x.count(2), 0);
    }

    /** "Refused: there would be more than 80." */
    private static void signs() {
        WomenByTheRoofs x = new WomenByTheRoofs();
        for (int many = 4; many <= 80; many += 4) {
            T.due("2 " + many + " signs", x.sign(-1), many);
        }
        T.refused("2 84 signs", x, () -> x.sign(-1), -1);
        int[] sizes = {80, 79, 78, 77, 76, 75, 1, 0};
        for (int size : sizes) {
            x.end(size);
            T.due("2 behind " + size, x.sign(0), size > 76 ? -1 : size + 4);
            while (x.count(12) < 80 && x.sign(0) > 0) {
                T.due("2 filling up", x.count(12) % 4, size % 4);
            }
        }
        WomenByTheRoofs y = new WomenByTheRoofs();
        T.due("2 signs 0 are signs", y.sign(0), 4);
        T.due("2 a sign 0 is no sign of a town", y.town(), -1);
        T.refusedText("2 nor behind one", y, "s\0s", y::town, -2);
        T.refusedText("2 nor one of folk", y, "m0:u\0", y::folk, -5);
        T.refusedText("2 nor one of a rule", y, "1\0", y::rule, -2);
        T.refusedText("2 nor one of an evening", y, "f\0", y::evening, -2);
        y.sign(0x73f3f3f3);
        T.due("2 a byte above 127 is itself", y.town(), -2);
        y.sign(0xf3737373);
        T.due("2 the highest byte comes first", y.town(), -1);
        y.sign(0x737373f3);
        T.due("2 the lowest comes last", y.town(), -4);
    }

    /** "false if it has not so many, or n is below 0". */
    private static void ends() {
        WomenByTheRoofs x = new WomenByTheRoofs();
        T.due("3 none of none", x.end(0), true);
        T.due("3 one of none", x.end(1), false);
        Tester.say(x, "s".repeat(80));
        T.due("3 81 of 80", x.end(81), false);
        T.due("3 below 0", x.end(-1), false);
        T.due("3 the least", x.end(LEAST), false);
        T.due("3 the most", x.end(MOST), false);
        T.due("3 has 80", x.count(12), 80);
        T.due("3 80 of 80", x.end(80), true);
        T.due("3 has 80 still", x.count(12), 80);
        T.due("3 five", x.end(5), true);
        T.due("3 six of five", x.end(6), false);
        x.sign(0x2e682f00);
        x.end(6);
        T.due("3 what comes then comes behind the first five", x.town(), 6);
        T.due("3 the fifth", x.cell(4, 0), 3);
        T.due("3 the sixth", x.cell(5, 0), 1);
        Tester.say(x, "s");
        T.due("3 none of one", x.end(0), true);
        T.due("3 it is empty", x.town(), -1);
    }

    // ---- 4

    /** "WIDE 1 .. 6, HIGH 1 .. 6". */
    private static void sidesOfATown() {
        for (int wide = 1; wide <= 7; wide++) {
            for (int high = 1; high <= 7; high++) {
                String row = "s".repeat(wide);
                String text = row + ("/" + row).repeat(high - 1);
                int want = wide > 6 ? -7 : high > 6 ? -1 - 6 * (wide + 1) : wide * high;
                WomenByTheRoofs x = new WomenByTheRoofs();
                T.due("4 " + text, Tester.town(x, text), want);
                T.due("4 cells of " + text, x.count(0), want > 0 ? want : 1);
                T.due("4 wide is " + text, x.count(1), want > 0 ? wide : 1);
                T.dueNone("4 no cell behind the last", () -> x.cell(x.count(0), 0));
            }
        }
    }

    /** "its end, if it ends too early; a seventh sign of a row, a seventh row's first sign, ..". */
    private static void faultsOfATown() {
        WomenByTheRoofs x = new WomenByTheRoofs();
        String six = "./././././.";
        Object[][] told = {
            {"its end, of an empty one", "", 0}, {"its end, behind a /", "./", 2},
            {"its end, behind another /", "./h/", 4}, {"a / ahead of all", "/", 0}, {"a / behind a /", "..//..", 3},
            {"a seventh sign", ".......", 6}, {"a seventh sign that is none", "......x", 6},
            {"a seventh sign of a second row", "....../.......", 13}, {"a / is no seventh sign", "....../.", 8},
            {"a seventh row's first sign", six + "/.", 12},
            {"a seventh row's first sign that is none", six + "/x", 12},
            {"a seventh row's first sign, a /", six + "//", 12},
            {"a seventh row's first sign, the end", six + "/", 12}, {"a / where the row is shorter", ".././/", 4},
            {"a / where it is shorter, a row behind it", "../././", 4},
            {"the end where the row is shorter", ".../..", 6}, {"the end where the third is shorter", "../../.", 7},
            {"a sign more than that has", "../...", 5}, {"a sign more that is none", "../..x", 5},
            {"a sign more than one", "./..", 3}, {"a sign that is none", ".x.", 1},
            {"a sign that is none, first", "S", 0}, {"a sign that is none, in a second row", "../.x", 4},
            {"a blank", ". .", 1}};
        for (Object[] one : told) {
            T.refusedText("4 " + one[0], x, (String) one[1], x::town, -1 - (Integer) one[2]);
        }
        T.due("4 the largest of all", Tester.town(x, "######/....../hhhhhh/ssssss/.h#s.h/......"),
                36);
        T.due("4 a text of 80 signs", Tester.town(x, "s".repeat(80)), -7);
    }

    /** "there are no PLANKS, no PEOPLE, no FIRE, no FEAST; NOW 0; nothing can be undone, nothing is kept". */
    private static void aTownAnew() {
        WomenByTheRoofs x = Tester.made("s.h.h", "w0:o;m0:rl;w2:o");
        x.tell(0);
        x.plank(2, 4);
        x.fire(1);
        x.minutes(3);
        x.feast(1);
        x.keep(0);
        x.keep(1);
        T.due("4 told anew", Tester.town(x, "s.h.h"), 5);
        int[] want = {5, 5, 0, 0, 0, 0, 0, 0, 0, -1, 0};
        for (int what = 0; what < want.length; what++) {
            T.due("4 anew, count(" + what + ")", x.count(what), want[what]);
        }
        T.due("4 nothing is undone", x.undo(), -1);
        T.due("4 nothing is kept", x.again(0) || x.again(1), false);
        T.due("4 no way over the plank", x.path(1, 2, 4), -2);
        Tester.folk(x, "m0:rl;w0:o;w2:o");
        T.due("4 the first is a man", x.count(5), 6);
        T.due("4 nobody has the news", x.count(6), 0);
        T.due("4 nobody met", x.count(8) + x.met(0, 1), 0);
        T.due("4 all are at their first place", x.person(0, 3), 0);
        T.due("4 no feast: she is above", x.person(1, 2), 1);
        T.due("4 no feast: she goes", x.person(2, 7), 1);
        WomenByTheRoofs full = Tester.made("s", "w0:oo;m0:oo;".repeat(4).substring(0, 47));
        full.minutes(3);
        T.due("4 all of eight met", full.count(8), 48);
        T.due("4 all of eight are at a second place", full.person(0, 3) * full.person(7, 3), 1);
        Tester.town(full, "s");
        Tester.folk(full, "w0:oo;m0:oo;".repeat(4).substring(0, 47));
        T.due("4 nobody of eight met", full.count(8), 0);
        for (int one = 0; one < 8; one++) {
            T.due("4 met nobody: " + one, full.person(one, 6), 0);
            T.due("4 at its first place: " + one, full.person(one, 3), 0);
        }
    }

    // ---- 5

    /** "a CELL that is none, or not of that net: at its last digit"; "a CELL (1 or 2 digits)". */
    private static void cellsOfFolk() {
        WomenByTheRoofs x = new WomenByTheRoofs();
        Tester.town(x, "....../....../....../....../....../.....h");
        T.refusedText("5 36 of 36", x, "m36:u", x::folk, -3);
        T.refusedText("5 99", x, "m99:u", x::folk, -3);
        T.refusedText("5 a woman on a street", x, "w34:u", x::folk, -3);
        T.refusedText("5 a man on a house", x, "m35:u", x::folk, -3);
        T.refusedText("5 a third digit", x, "m011:u", x::folk, -4);
        T.refusedText("5 a third digit behind a cell that is none", x, "m361:u", x::folk, -3);
        T.refusedText("5 no digit", x, "m:u", x::folk, -2);
        T.refusedText("5 ends ahead of a digit", x, "m", x::folk, -2);
        T.refusedText("5 ends behind a digit", x, "m1", x::folk, -3);
        T.refusedText("5 ends behind two", x, "m11", x::folk, -4);
        T.refusedText("5 a sign below 0", x, "m/:u", x::folk, -2);
        T.refusedText("5 a sign above 9", x, "m0::u", x::folk, -4);
        T.due("5 the last cell", Tester.folk(x, "w35:u;m34:u;m00:u;m09:u;m9:u"), 5);
        T.due("5 two digits", x.person(0, 1) * 100 + x.person(1, 1), 3534);
        T.due("5 a 0 ahead", x.person(3, 1) * 100 + x.person(4, 1), 909);
        WomenByTheRoofs one = new WomenByTheRoofs();
        T.refusedText("5 cell 1 of one", one, "m1:u", one::folk, -2);
        T.refusedText("5 cell 01 of one", one, "m01:u", one::folk, -3);
        T.refusedText("5 cell 1 of one, in a second line", one, "m0:u;w1:u", one::folk, -7);
        WomenByTheRoofs n = new WomenByTheRoofs();
        Tester.town(n, "#sh.");
        T.refusedText("5 a man on neither", n, "m0:u", n::folk, -2);
        T.refusedText("5 a woman on neither", n, "w0:u", n::folk, -2);
        T.refusedText("5 a man on a house, one digit", n, "m2:u", n::folk, -2);
        T.refusedText("5 a woman on a street, one digit", n, "w3:u", n::folk, -2);
        T.due("5 on a stair both", Tester.folk(n, "m1:u;w1:u;w2:u;m3:u"), 4);
    }

    /** "a tenth sign of a ROUTE". */
    private static void routesOfFolk() {
        WomenByTheRoofs x = new WomenByTheRoofs();
        T.refusedText("5 a tenth sign", x, "m0:urdlourdlo", x::folk, -13);
        T.refusedText("5 a tenth sign that is none", x, "m0:urdlourdl!", x::folk, -13);
        T.refusedText("5 a tenth sign in a second line", x, "m00:u;w0:oooooooooo", x::folk, -19);
        T.refusedText("5 none", x, "m0:", x::folk, -4);
        T.refusedText("5 none, a line behind it", x, "m0:;m0:u", x::folk, -4);
        T.refusedText("5 no colon", x, "m0", x::folk, -3);
        T.refusedText("5 a colon more", x, "m0::", x::folk, -4);
        T.refusedText("5 a large sign", x, "m0:U", x::folk, -4);
        T.due("5 one and nine", Tester.folk(x, "m0:o;w0:urdlourdl"), 2);
        T.due("5 one", x.person(0, 4), 1);
        T.due("5 nine", x.person(1, 4), 9);
    }

    /** "the first sign of a LINE for which there is no room". */
    private static void roomForFolk() {
        for (int there = 0; there <= 8; there++) {
            WomenByTheRoofs x = new WomenByTheRoofs();
            String line = "w0:o;";
            if (there > 0) {
                T.due("5 first " + there, Tester.folk(x, line.repeat(there).substring(0, 5 * there - 1)), there);
            }
            int room = 8 - there;
            T.refusedText("5 one too many behind " + there, x, line.repeat(room) + "w0:o", x::folk, -1 - 5 * room);
            T.refusedText("5 one too many that is none", x, line.repeat(room) + "?", x::folk, -1 - 5 * room);
            if (room > 0) {
                T.refusedText("5 ends behind ;", x, line.repeat(room), x::folk, -1 - 5 * room);
                T.due("5 just as many", Tester.folk(x, line.repeat(room).substring(0, 5 * room - 1)), room);
            }
            T.due("5 eight", x.count(2), 8);
            T.due("5 nobody more", Tester.folk(x, ""), 0);
        }
    }

    /** "76, if it has more and the first 76 could go on or end". */
    private static void lengthOfFolk() {
        WomenByTheRoofs x = new WomenByTheRoofs();
        String five = "m0:ooooooooo;".repeat(5);
        T.refusedText("5 76 and one more of a route", x, five + "m0:oooooooo" + "o", x::folk, -77);
        T.refusedText("5 76 and a ;", x, five + "m0:oooooooo" + ";", x::folk, -77);
        T.refusedText("5 76 and what is none", x, five + "m0:oooooooo" + "?", x::folk, -77);
        T.refusedText("5 76 and four", x, five + "m0:oooooooo" + "????", x::folk, -77);
        T.refusedText("5 the first 76 could go on behind a ;", x, five + "m0:ooooooo;" + "m0:o", x::folk, -77);
        T.refusedText("5 the first 76 could go on behind an m", x, five + "m0:oooooo;m" + "0:o", x::folk, -77);
        T.refusedText("5 the first 76 could go on behind a cell", x, five + "m0:ooooo;m0" + ":o", x::folk, -77);
        T.refusedText("5 the first 76 could go on behind a colon", x, five + "m0:oooo;m0:" + "o", x::folk, -77);
        T.refusedText("5 the first 76 could not: a fault at 75", x, five + "m0:ooooooo?" + "o", x::folk, -76);
        T.refusedText("5 the first 76 could not: a cell at 75", x, five + "m0:ooooo;m1" + ":o", x::folk, -76);
        T.refusedText("5 76 that end too early", x, five + "m0:ooooooo;", x::folk, -77);
        T.due("5 75", Tester.folk(x, five + "m0:ooooooo"), 6);
        WomenByTheRoofs y = new WomenByTheRoofs();
        T.due("5 76", Tester.folk(y, five + "m0:oooooooo"), 6);
    }

    /** "the first 76 could go on": the last of them a digit that is no CELL, unless another comes behind it. */
    private static void cellsCutOff() {
        WomenByTheRoofs x = new WomenByTheRoofs();
        Tester.town(x, "hhhhhh/hhh.hh");
        String nine = "m9:ooooooooo;".repeat(5) + "m9:ooooo;";
        T.refusedText("5 09 could come", x, nine + "m0" + ":o", x::folk, -77);
        T.refusedText("5 09 comes", x, nine + "m0" + "9", x::folk, -77);
        T.refusedText("5 none of 10 to 19 could", x, nine + "m1" + "0", x::folk, -76);
        T.refusedText("5 it ends with 0", x, nine + "m0", x::folk, -76);
        T.refusedText("5 9 is a cell", x, nine + "m9" + "9", x::folk, -77);
        Tester.town(x, "hhhhhh/hhhhhh/hhhhhh/h.hhhh");
        String nineteen = "m19:ooooooooo;".repeat(4) + "m19:ooooo;m19:ooo;";
        T.refusedText("5 19 could come", x, nineteen + "m1" + "?", x::folk, -77);
        T.refusedText("5 none of 0 to 9 could", x, nineteen + "m0" + "?", x::folk, -76);
        T.refusedText("5 none of 20 to 29 could", x, nineteen + "m2" + "?", x::folk, -76);
        T.refusedText("5 a woman's 10 could", x, nineteen + "w1" + "?", x::folk, -77);
        Tester.town(x, "hhhhhh/hhhhhh/hhhhhh/hh.hhh");
        String twenty = nineteen.replace("19", "20");
        T.refusedText("5 none of 10 to 19 could, 20 is one", x, twenty + "m1" + "?", x::folk, -76);
        T.refusedText("5 20 could come", x, twenty + "m2" + "?", x::folk, -77);
        T.refusedText("5 none of 30 to 39 could", x, twenty + "m3" + "?", x::folk, -76);
    }

    /** "Nothing of it comes, if a LINE can't"; "an empty one: nothing". */
    private static void nothingOfFolk() {
        WomenByTheRoofs x = new WomenByTheRoofs();
        T.refusedText("5 the last line can't", x, "w0:u;w0:r;w0:d;w0:", x::folk, -19);
        T.due("5 nobody came", x.count(2) + x.count(5), 0);
        T.due("5 a man comes then", Tester.folk(x, "m0:o"), 1);
        T.due("5 he is no woman", x.count(5), 0);
        T.refusedText("5 behind him the last line can't", x, "w0:u;w0:r;w9:d", x::folk, -12);
        T.due("5 his route is as it was", x.person(0, 4), 1);
        x.tell(0);
        x.keep(0);
        T.due("5 an empty one", Tester.folk(x, ""), 0);
        T.due("5 an empty one forgets nothing", x.count(10), 1);
        T.due("5 an empty one spoils nothing", x.again(0), true);
    }

    // ---- 6

    /** "THE RULE is a text of at most 40 signs"; "-1 - p: as folk() (40 signs)". */
    private static void lengthOfARule() {
        WomenByTheRoofs x = Tester.made("s", "m0:o");
        String nineteen = "1+".repeat(19);
        Object[][] told = {
            {"41, a digit more", nineteen + "1" + "1" + "1", 40}, {"41, one that is none", nineteen + "11" + "?", 40},
            {"41, an operation", nineteen + "11" + "+", 40}, {"41 behind an operation", nineteen + "1+" + "1", 40},
            {"41 behind a -", nineteen + "1-" + "1", 40}, {"41 in a bracket", "(" + nineteen + "1" + ")", 40},
            {"80", nineteen + "11" + "+1".repeat(20), 40}, {"a fault at 39", nineteen + "1?" + "1", 39},
            {"40 that end behind an operation", nineteen + "1+", 40},
            {"40 that end in a bracket", "(" + nineteen + "1", 40},
            {"41, a fourth digit", "1+".repeat(18) + "1111" + "1", 39}, {"41 of -", "-".repeat(41), 40}};
        for (Object[] one : told) {
            T.refusedText("6 " + one[0], x, (String) one[1], x::rule, -1 - (Integer) one[2]);
        }
        T.due("6 40", Tester.rule(x, nineteen + "11"), 0);
        T.due("6 40 of brackets", Tester.rule(x, "((((" + "1+".repeat(15) + "11" + "))))"), 0);
        goes(x, "-1" + "+1".repeat(18) + "=1", 0);
        goes(x, "-9" + "+1".repeat(18) + "=9", 1);
        T.due("6 39 of - and 0", Tester.rule(x, "-".repeat(39) + "0"), 0);
        T.due("6 it is 0", x.person(0, 7), 0);
        T.due("6 an empty one: none", Tester.rule(x, ""), 0);
        T.due("6 none: 1", x.person(0, 7), 1);
    }

    /** "(two; 1 or 0; not one behind the other)", "a NUMBER of 1 to 3 digits", "at most 4 in one another". */
    private static void thingsOfARule() {
        WomenByTheRoofs x = Tester.made("s", "m0:o");
        Object[][] told = {
            {"a fourth digit", "1000", 3}, {"a fourth digit of 0", "0000", 3}, {"no thing", "()", 1},
            {"a fifth bracket", "(((((", 4}, {"a fifth bracket behind others", "(1)+((((((", 8},
            {"one behind the other", "1<2<3", 3}, {"= behind <", "1<2=3", 3}, {"> behind +", "1<2+3>4", 5},
            {"one behind the other in a bracket", "(1=2=3)", 4}, {"behind a bracket", "(1<2)<3<4", 7},
            {"one alone", "<", 0}, {"one without its second", "1<", 2}, {"no + ahead of a thing", "+1", 0},
            {"no + behind +", "1++1", 2}, {"no thing behind a thing", "mi", 1},
            {"a bracket behind a thing", "m(1)", 1}, {"a closed one that was not opened", "1)", 1},
            {"an open one that is not closed", "(1", 2}, {"a - alone", "-", 1}, {"a thing that is none", "z", 0},
            {"a blank", "1 ", 1}, {"a large one", "M", 0}};
        for (Object[] one : told) {
            T.refusedText("6 " + one[0], x, (String) one[1], x::rule, -1 - (Integer) one[2]);
        }
        String[] good = {"0", "00", "000", "999", "((((1))))", "((((1))))+((((1))))", "(((1))+(1))", "1<2",
            "(1<2)<(3<4)", "((1<2)=1)>0", "--------1", "1---1", "1*--1"};
        for (String text : good) {
            T.due("6 can be " + text, Tester.rule(x, text), 0);
        }
    }

    private static void goes(WomenByTheRoofs x, String text, int want) {
        T.due("6 is told " + text, Tester.rule(x, text), 0);
        T.due("6 " + text, x.person(0, 7), want);
    }

    /** Of a rule that was refused nothing is left, neither in the one that is there nor in the next one. */
    private static void nothingOfARule() {
        String[] bad = {"0*", "0*(", "0*((0", "1-", "-", "(0<", "0*-", "0=1=1", "((((("};
        for (String text : bad) {
            WomenByTheRoofs x = Tester.made("s", "m0:o");
            Tester.rule(x, "0");
            Tester.rule(x, text);
            T.due("6 behind " + text + " as it was", x.person(0, 7), 0);
            goes(x, "1", 1);
            Tester.rule(x, text);
            goes(x, "1<2", 1);
            Tester.rule(x, text);
            goes(x, "(1)-1", 0);
        }
    }

    /** "w 1 if a woman, x its column, y its row, n how many others .., s 1 if it is on a stair, k 1 if ..". */
    private static void qualities() {
        WomenByTheRoofs x = Tester.made("s", "w0:o;m0:o");
        x.tell(0);
        goes(x, "w=1", 1);
        goes(x, "s=1", 1);
        goes(x, "k=1", 1);
        goes(x, "n=0", 1);
        goes(x, "x+y+i+m=0", 1);
        WomenByTheRoofs column = Tester.made("./././././.", "m5:o");
        goes(column, "y=5", 1);
        goes(column, "x=0", 1);
        goes(column, "w+s+k+n", 0);
        WomenByTheRoofs row = Tester.made("......", "m5:o");
        goes(row, "x=5", 1);
        goes(row, "y=0", 1);
        WomenByTheRoofs last = Tester.made("ssssss/ssssss/ssssss/ssssss/ssssss/ssssss", "m35:o" + ";m35:o".repeat(7));
        goes(last, "x*10+y=55", 1);
        goes(last, "n=7", 1);
        Tester.rule(last, "i=7");
        T.due("6 i of the last", last.person(7, 7), 1);
        last.minutes(60);
        goes(last, "m=60", 1);
    }

    /** "As ints.": beyond 2147483647 comes -2147483648. */
    private static void intsOfARule() {
        WomenByTheRoofs x = Tester.made("s", "m0:o");
        goes(x, "512*512*512*16<0", 1);
        goes(x, "512*512*512*16-1>0", 1);
        goes(x, "-(512*512*512*16)<0", 1);
        goes(x, "512*512*512*16/-1<0", 1);
        goes(x, "512*512*512*16=-(512*512*512*16)", 1);
        goes(x, "512*512*512*32", 0);
        goes(x, "512*512*512*32+1", 1);
        goes(x, "(512*512*512*16-1)*2=-2", 1);
        goes(x, "999*999*999*999*999<0", (int) (999L * 999 * 999 * 999 * 999) < 0 ? 1 : 0);
        goes(x, "-512*512*512*16-1>0", 1);
    }

    /** "by 0: 0; cut to 0"; "bind least .. then + - (from the left), then * / (from the left ..)". */
    private static void divisions() {
        WomenByTheRoofs x = Tester.made("s", "m0:o");
        goes(x, "1/0", 0);
        goes(x, "0/0", 0);
        goes(x, "1/(1-1)+0", 0);
        goes(x, "5/0=0", 1);
        goes(x, "512*512*512*16/0", 0);
        goes(x, "7/2=3", 1);
        goes(x, "-7/2=-3", 1);
        goes(x, "7/-2=-3", 1);
        goes(x, "-7/-2=3", 1);
        goes(x, "1/2", 0);
        goes(x, "-1/2", 0);
        goes(x, "8/4/2=1", 1);
        goes(x, "8/4*2=4", 1);
        goes(x, "8*4/3=10", 1);
        goes(x, "8-4-2=2", 1);
        goes(x, "8-4+2=6", 1);
        goes(x, "2+2*2=6", 1);
        goes(x, "1+1<1+2", 1);
        goes(x, "2<1", 0);
        goes(x, "1<1", 0);
        goes(x, "1>1", 0);
        goes(x, "(2>1)=1", 1);
        goes(x, "(1>2)=0", 1);
        goes(x, "-0", 0);
        goes(x, "--1=1", 1);
    }

    // ---- 7

    /** "(its end for none; a tenth sign: at it); -100: none such (asked first)". */
    private static void routes() {
        WomenByTheRoofs x = Tester.made("..", "m0:rl;m1:l");
        x.minute();
        T.refusedText("7 its end for none", x, "", () -> x.route(0), -1);
        T.refusedText("7 a tenth sign", x, "urdlourdlo", () -> x.route(0), -10);
        T.refusedText("7 a tenth sign that is none", x, "urdlourdl?", () -> x.route(0), -10);
        T.refusedText("7 80 signs", x, "u".repeat(80), () -> x.route(0), -10);
        T.refusedText("7 the first that can't be", x, "?", () -> x.route(0), -1);
        T.refusedText("7 the ninth that can't be", x, "urdlourd?", () -> x.route(0), -9);
        T.refusedText("7 none such", x, "u", () -> x.route(2), -100);
        T.refusedText("7 none such, asked ahead of none", x, "", () -> x.route(2), -100);
        T.refusedText("7 none such, asked ahead of a fault", x, "?", () -> x.route(-1), -100);
        T.refusedText("7 none such, asked ahead of a tenth", x, "urdlourdlo", () -> x.route(8), -100);
        T.refusedText("7 none such, the least", x, "u", () -> x.route(LEAST), -100);
        T.refusedText("7 none such, the most", x, "u", () -> x.route(MOST), -100);
        T.due("7 one of no people", Tester.route(new WomenByTheRoofs(), 0, "u"), -100);
        T.due("7 one sign", Tester.route(x, 0, "o"), 1);
        T.due("7 from its first place on", x.person(0, 3), 0);
        T.due("7 what can be undone is forgotten", x.undo(), -1);
        x.minute();
        T.due("7 nine signs", Tester.route(x, 1, "urdlourdl"), 9);
        T.due("7 nine", x.person(1, 4), 9);
        T.due("7 forgotten again", x.count(10), 0);
    }

    // ---- 8 and 9

    private static void cells() {
        WomenByTheRoofs x = Tester.made("#.hs", "");
        int[] kinds = {0, 1, 2, 3};
        for (int cell = 0; cell < 4; cell++) {
            T.due("8 kind", x.cell(cell, 0), kinds[cell]);
            T.due("8 nobody below", x.cell(cell, 1), 0);
            T.due("8 nobody above", x.cell(cell, 2), 0);
            T.due("8 no planks", x.cell(cell, 3), 0);
        }
        T.due("8 above from the house", x.cell(2, 5), 1);
        T.due("8 below from the house", x.cell(2, 4), 0);
        int[] noCells = {-1, 4, 35, 36, LEAST, MOST};
        for (int none : noCells) {
            for (int what = -1; what < 7; what++) {
                int asked = what;
                T.dueNone("8 cell(" + none + ", " + what + ")", () -> x.cell(none, asked));
            }
        }
        for (int what : new int[] {-1, 6, LEAST, MOST}) {
            for (int cell = 0; cell < 4; cell++) {
                int asked = cell;
                T.dueNone("8 cell(" + cell + ", " + what + ")", () -> x.cell(asked, what));
            }
        }
        WomenByTheRoofs full = Tester.made("s", "m0:o;m0:o;m0:o;m0:o;w0:o;w0:o;w0:o;w0:o");
        T.due("8 all men below", full.cell(0, 1), 0x0f);
        T.due("8 all women above", full.cell(0, 2), 0xf0);
        full.feast(1);
        T.due("8 all below", full.cell(0, 1), 0xff);
        T.due("8 none above", full.cell(0, 2), 0);
        WomenByTheRoofs large = Tester.made("ssssss/ssssss/ssssss/ssssss/ssssss/ssssss", "m35:o");
        T.due("8 the last cell", large.cell(35, 1) * 100 + large.cell(35, 4) * 10 + large.cell(35, 5), 122);
        T.due("8 in the midst", large.cell(14, 4) * 10 + large.cell(14, 5), 44);
        T.due("8 at an edge", large.cell(6, 4) * 10 + large.cell(11, 5), 33);
    }

    private static void people() {
        WomenByTheRoofs x = Tester.made("s", "m0:o;m0:o;m0:o;m0:o;w0:o;w0:o;w0:o;w0:o");
        x.tell(7);
        x.minute();
        T.due("9 the last has it", x.person(7, 5), 1);
        T.due("9 the last met all men", x.person(7, 6), 4);
        T.due("9 the last is a woman", x.person(7, 0), 1);
        int[] none = {-1, 8, 9, LEAST, MOST};
        for (int who : none) {
            for (int what = -1; what < 9; what++) {
                int asked = what;
                T.dueNone("9 person(" + who + ", " + what + ")", () -> x.person(who, asked));
            }
        }
        for (int what : new int[] {-1, 8, LEAST, MOST}) {
            T.dueNone("9 person(7, " + what + ")", () -> x.person(7, what));
        }
        T.dueNone("9 nobody is there", () -> new WomenByTheRoofs().person(0, 0));
    }

    // ---- 10

    /** "Refused: others, somebody is there who could not be there then". */
    private static void builtUpon() {
        int[] men = {-1, 0, -1, 0};
        int[] women = {-1, -1, 0, 0};
        int[] both = {-1, -1, -1, 0};
        for (int what = 0; what < 4; what++) {
            T.due("10 under a man", Tester.made("s", "m0:o").build(0, what), men[what] < 0 ? -1 : 3);
            T.due("10 under a woman", Tester.made("s", "w0:o").build(0, what), women[what] < 0 ? -1 : 3);
            T.due("10 under both", Tester.made("s", "m0:o;w0:o").build(0, what), both[what] < 0 ? -1 : 3);
            T.due("10 under nobody", Tester.made("s", "").build(0, what), 3);
            WomenByTheRoofs f = Tester.made("s", "w0:o");
            f.feast(1);
            T.due("10 under a woman below", f.build(0, what), men[what] < 0 ? -1 : 3);
        }
        for (int was = 0; was < 4; was++) {
            for (int what = 0; what < 4; what++) {
                WomenByTheRoofs x = Tester.made(String.valueOf("#.hs".charAt(was)), "");
                T.due("10 what it was", x.build(0, what), was);
                T.due("10 what it is", x.cell(0, 0), what);
            }
        }
        WomenByTheRoofs g = Tester.made("s.", "m0:ro");
        g.minute();
        T.due("10 he has left it", g.build(0, 0), 3);
        T.due("10 he is here now", g.build(1, 2), -1);
        WomenByTheRoofs o = Tester.made("s", "");
        T.due("10 no such cell", o.build(1, 0), -1);
        T.due("10 no such kind", o.build(0, 4), -1);
    }

    /** "a PLANK ends there and it would be no roof, or lies over it and it would be one". */
    private static void builtUnderPlanks() {
        int[] ends = {-1, -1, 2, 2};
        int[] midst = {1, 1, -1, -1};
        for (int what = 0; what < 4; what++) {
            WomenByTheRoofs x = Tester.made("h.h", "");
            x.plank(0, 2);
            T.due("10 a plank's one end", x.build(0, what), ends[what]);
            WomenByTheRoofs y = Tester.made("h.h", "");
            y.plank(0, 2);
            T.due("10 a plank's other end", y.build(2, what), ends[what]);
            WomenByTheRoofs z = Tester.made("h/./h", "");
            z.plank(2, 0);
            T.due("10 under a plank", z.build(1, what), midst[what]);
            z.build(1, 1);
            z.take();
            T.due("10 it is taken", z.build(1, what), 1);
        }
        WomenByTheRoofs six = Tester.made("h.h.h/...../h.h.h", "");
        int[][] laid = {{0, 2}, {2, 4}, {10, 12}, {12, 14}, {0, 10}, {4, 14}};
        int[] under = {1, 3, 11, 13, 5, 9};
        for (int i = 0; i < 6; i++) {
            six.plank(laid[i][0], laid[i][1]);
        }
        for (int cell : under) {
            T.due("10 under one of six", six.build(cell, 2), -1);
        }
        T.due("10 under none of six", six.build(7, 2), 1);
        WomenByTheRoofs u = Tester.made("h.h", "");
        u.plank(0, 2);
        u.undo();
        T.due("10 it is undone", u.build(1, 3), 1);
        T.due("10 joined", u.pieces(1), 1);
    }

    // ---- 11 and 12

    /** "-2: the two are no such roofs (of one row or column, with one CELL between them, no roof)". */
    private static void planksOfNoRoofs() {
        String signs = "#.hs";
        for (int one = 0; one < 4; one++) {
            for (int between = 0; between < 4; between++) {
                for (int other = 0; other < 4; other++) {
                    String row = "" + signs.charAt(one) + signs.charAt(between) + signs.charAt(other);
                    boolean can = one > 1 && other > 1 && between < 2;
                    T.due("11 " + row, Tester.made(row, "").plank(0, 2), can ? 0 : -2);
                    String column = row.charAt(0) + "/" + row.charAt(1) + "/" + row.charAt(2);
                    T.due("11 " + column, Tester.made(column, "").plank(2, 0), can ? 0 : -2);
                }
            }
        }
        WomenByTheRoofs x = Tester.made("h..h/h.hh/h.h.", "");
        T.refused("11 the same twice", x, () -> x.plank(0, 0), -2);
        T.refused("11 none between", x, () -> x.plank(0, 4), -2);
        T.refused("11 two between", x, () -> x.plank(0, 3), -2);
        T.refused("11 not of one row or column", x, () -> x.plank(3, 10), -2);
        T.refused("11 a row's end and the next one's start", x, () -> x.plank(3, 4), -2);
        T.refused("11 two on by number, not by map", x, () -> x.plank(4, 2), -2);
        T.refused("11 round an edge", x, () -> x.plank(7, 9), -2);
        T.refused("11 a roof between", x, () -> x.plank(0, 8), -2);
        T.refused("11 no such cell", x, () -> x.plank(0, 12), -1);
        T.refused("11 no such cells, alike", x, () -> x.plank(-1, -1), -1);
        WomenByTheRoofs y = Tester.made("hh.h/####/#h.#", "");
        T.due("11 two on in a row", y.plank(1, 3), 0);
        T.due("11 two on in a column", y.plank(1, 9), 1);
        WomenByTheRoofs w = Tester.made("..h/..h/h..", "");
        T.refused("11 two on by number over a row's end", w, () -> w.plank(5, 6), -2);
        WomenByTheRoofs e = Tester.made("#h/h#", "");
        T.refused("11 beside by number", e, () -> e.plank(1, 2), -2);
    }

    /** "-3: one is there; -4: 6 are there (asked in this order)". */
    private static void sixPlanks() {
        WomenByTheRoofs x = Tester.made("h.h.h/...../h.h.h/...../h.h.h", "");
        int[][] laid = {{0, 2}, {4, 2}, {0, 10}, {12, 2}, {14, 4}, {10, 12}};
        for (int i = 0; i < 6; i++) {
            T.due("11 number " + i, x.plank(laid[i][0], laid[i][1]), i);
            for (int k = 0; k <= i; k++) {
                int[] two = laid[k];
                T.refused("11 one is there", x, () -> x.plank(two[0], two[1]), -3);
                T.refused("11 one is there, from its other end", x, () -> x.plank(two[1], two[0]), -3);
            }
        }
        T.refused("11 six are there", x, () -> x.plank(12, 14), -4);
        T.refused("11 six are there, one of them this", x, () -> x.plank(2, 0), -3);
        T.refused("11 six are there, no such roofs", x, () -> x.plank(0, 4), -2);
        T.refused("11 six are there, no such cells", x, () -> x.plank(0, 25), -1);
        T.due("11 bits of those that end there", x.cell(2, 3), 0b001011);
        T.due("11 the sixth ends there", x.cell(12, 3), 0b101000);
        x.take();
        T.due("11 there is room again", x.plank(12, 14), 5);
        x.undo();
        x.undo();
        T.due("11 as six were", x.count(4), 6);
        T.due("11 the sixth as it was", x.cell(10, 3) * 100 + x.cell(14, 3), 0b100100 * 100 + 0b010000);
        T.refused("11 six again", x, () -> x.plank(12, 14), -4);
    }

    private static void taken() {
        WomenByTheRoofs x = Tester.made("h.h.h", "");
        T.refused("12 none", x, x::take, -1);
        x.plank(0, 2);
        x.plank(2, 4);
        T.due("12 one left", x.take(), 1);
        T.due("12 none left", x.take(), 0);
        T.refused("12 none again", x, x::take, -1);
        x.undo();
        T.due("12 the first is there again", x.cell(0, 3), 1);
        T.due("12 and is taken", x.take(), 0);
    }

    // ---- 13

    /** "of bytes, shorts the lowest bits, with their sign; put to 0 .. its last place". */
    private static void sheetsThatWrap() {
        WomenByTheRoofs x = Tester.made(".", "m0:oooooooo" + ";m0:ooooooooo" + ";m0:o");
        int[][] calls = {
            {0, 3, 127, 0, 15}, {0, 3, 128, 0, 0}, {0, 3, 255, 0, 0}, {0, 3, 256, 1, 1}, {0, 3, -128, 0, 0},
            {0, 3, -129, 0, 15}, {0, 3, -250, 0, 12}, {0, 3, 127, 1, 7}, {0, 3, LEAST + 3, 0, 6}, {0, 3, MOST, 0, 0},
            {0, 3, 3, 256, 6}, {1, 3, 128, 0, 15}, {1, 3, 32767, 0, 15}, {1, 3, 32768, 0, 0}, {1, 3, 65535, 0, 0},
            {1, 3, 65536, 1, 1}, {1, 3, -32768, 0, 0}, {1, 3, -32769, 0, 15}, {1, 3, 32767, 1, 7},
            {1, 3, 2, 65536, 4}, {1, 3, LEAST + 5, 0, 10}, {2, 3, 32768, 0, 15}, {2, 3, MOST, 0, 15},
            {2, 3, LEAST, 0, 0}, {2, 3, MOST, 1, 7}, {2, 3, LEAST, -1, 8}, {2, 3, -1, 1, 0}, {2, 3, 7, 1, 15},
            {2, 3, 8, 1, 15}, {2, 3, 1, MOST, 1}, {2, 3, 1, LEAST, 1}, {2, 3, 0, LEAST, 0}};
        for (int[] c : calls) {
            String call = "13 sheet(" + c[0] + ", " + c[1] + ", " + c[2] + ", " + c[3] + ")";
            T.due(call, x.sheet(c[0], c[1], c[2], c[3]), c[4]);
            T.due(call + ", the sum of all", x.person(0, 3) + x.person(1, 3) + x.person(2, 3), c[4]);
            T.due(call + ", a route of one", x.person(2, 3), 0);
        }
    }

    /** "or a missing one (3): those behind it are 0"; "-3: missing (all 0)"; "n above 8 (these first)". */
    private static void sheetsThatEnd() {
        WomenByTheRoofs x = Tester.made(".", "m0:ooooooooo;m0:ooooooooo;m0:ooooooooo");
        int[] sums = {0, 4, 8, 12, 12, 12, 12, 12, 12};
        for (int n = 0; n <= 8; n++) {
            x.sheet(2, 3, 7, 0);
            T.due("13 " + n + " entries", x.sheet(2, n, 4, 0), sums[n]);
            T.due("13 those behind them are 0", x.person(2, 3), n < 3 ? 0 : 4);
        }
        T.refused("13 nine", x, () -> x.sheet(2, 9, 4, 0), -1);
        T.refused("13 below 0", x, () -> x.sheet(2, -1, 4, 0), -2);
        T.refused("13 another kind, below 0", x, () -> x.sheet(4, -1, 4, 0), -1);
        int[] any = {-1, 0, 1, 8, LEAST};
        for (int n : any) {
            x.sheet(2, 3, 7, 0);
            T.due("13 missing", x.sheet(3, n, 4, 4), -3);
            T.due("13 all 0", x.person(0, 3) + x.person(1, 3) + x.person(2, 3), 0);
        }
        T.refused("13 missing of nine", x, () -> x.sheet(3, 9, 4, 4), -1);
        WomenByTheRoofs all = Tester.made(".", "m0:oo" + ";m0:oo".repeat(7));
        T.due("13 of eight", all.sheet(2, 8, 1, 0), 8);
        T.due("13 the last of eight", all.person(7, 3), 1);
        T.due("13 of seven", all.sheet(2, 7, 1, 0), 7);
        T.due("13 the last is behind it", all.person(7, 3), 0);
        all.sheet(2, 8, 1, 0);
        all.sheet(3, 8, 1, 0);
        T.due("13 the last is 0 too", all.person(7, 3), 0);
        WomenByTheRoofs e = new WomenByTheRoofs();
        T.due("13 of nobody", e.sheet(2, 8, 4, 4), 0);
        T.due("13 of nobody, missing", e.sheet(3, 0, 0, 0), -3);
        Tester.folk(e, "m0:ooo");
        T.due("13 who comes then is at its first place", e.person(0, 3), 0);
    }
}
