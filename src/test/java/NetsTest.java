/** Promises 25 to 33: the two nets, ways, errands, trysts, stairs and planks. */
public final class NetsTest {
    private static final Tester T = new Tester("NetsTest");
    private static final String SNAKE = "....../#####./....../.#####/......";

    public static void main(String[] args) {
        pieces();
        reach();
        path();
        both();
        errand();
        tryst();
        open();
        part();
        planks();
        T.finish();
    }

    private static void pieces() {
        WomenByTheRoofs x = Tester.made("s.h/#hh/..s", "");
        T.due("25 below", x.pieces(0), 2);
        T.dueRow("25 below", x, 3, 6);
        T.due("25 above", x.pieces(1), 2);
        T.dueRow("25 above", x, 4, 2);
        T.due("25 others", x.pieces(2), -1);
        T.due("25 others below 0", x.pieces(-1), -1);
        T.dueRow("25 others leave the ROW", x, 4, 2);
        Tester.town(x, "hh");
        T.due("25 without", x.pieces(0), 0);
        T.dueRow("25 without", x, 0, -1);
        Tester.town(x, "h.h.h");
        T.due("25 of equal ones", x.pieces(1), 3);
        T.dueRow("25 of equal ones", x, 1, 0);
        x.plank(2, 4);
        T.due("25 joined by a plank", x.pieces(1), 2);
        T.dueRow("25 joined by a plank", x, 2, 2);
        Tester.town(x, "..../h..h");
        T.due("25 not round the edge", x.pieces(1), 2);
        Tester.town(x, ".#.#.#/#.#.#./.#.#.#/#.#.#./.#.#.#/#.#.#.");
        T.due("25 eighteen", x.pieces(0), 18);
    }

    private static void reach() {
        WomenByTheRoofs x = Tester.made("s.h/#hh/..s", "");
        T.due("26 above", x.reach(1, 5), 4);
        T.dueRow("26 above", x, 308, 0);
        T.due("26 below", x.reach(0, 8), 3);
        T.dueRow("26 below", x, 64 + 128 + 256, 0);
        T.due("26 not of that net", x.reach(0, 2), -2);
        T.due("26 of none", x.reach(1, 3), -2);
        T.due("26 no such cell", x.reach(1, 9), -1);
        T.due("26 no such cell below 0", x.reach(1, -1), -1);
        T.due("26 no such level", x.reach(2, 0), -1);
        T.due("26 no such level below 0", x.reach(-1, 0), -1);
        T.dueRow("26 these leave the ROW", x, 64 + 128 + 256, 0);
        Tester.town(x, "....../....../....../....../....../......");
        T.due("26 all", x.reach(0, 20), 36);
        T.dueRow("26 all", x, (1 << 18) - 1, (1 << 18) - 1);
        Tester.town(x, "######/######/##.###/h.h###/######/######");
        x.plank(18, 20);
        T.due("26 over a plank", x.reach(1, 18), 2);
        T.dueRow("26 over a plank", x, 0, 5);
    }

    private static void path() {
        WomenByTheRoofs x = Tester.made(".../.../...", "");
        T.due("27 across", x.path(0, 0, 8), 4);
        T.dueRow("27 the least row", x, 1, 1, 2, 2);
        x.path(0, 8, 0);
        T.dueRow("27 back", x, 0, 0, 3, 3);
        T.due("27 nowhere", x.path(0, 4, 4), 0);
        T.dueRow("27 nowhere", x);
        T.due("27 not of that net", x.path(1, 0, 8), -1);
        T.due("27 another level", x.path(2, 0, 8), -1);
        T.due("27 another level below 0", x.path(-1, 0, 8), -1);
        T.due("27 no such cell", x.path(0, 0, 9), -1);
        T.due("27 no such cell below 0", x.path(0, -1, 8), -1);
        Tester.town(x, SNAKE);
        T.due("27 long", x.path(0, 0, 29), 19);
        T.dueRow("27 the first 10", x, 1, 1, 1, 1, 1, 2, 2, 3, 3, 3);
        T.due("27 ten", x.path(0, 0, 14), 10);
        T.dueRow("27 ten", x, 1, 1, 1, 1, 1, 2, 2, 3, 3, 3);
        Tester.town(x, ".#.");
        T.due("27 one can't", x.path(0, 0, 2), -2);
        Tester.town(x, "hhh/h.h");
        T.due("27 round", x.path(1, 3, 5), 4);
        x.plank(3, 5);
        T.due("27 over a plank", x.path(1, 3, 5), 1);
        T.dueRow("27 over a plank", x, 1);
    }

    private static void both() {
        WomenByTheRoofs x = Tester.made("s.s/hhh", "");
        T.due("28 below", x.both(0, 0, 0, 2), 2);
        T.dueRow("28 below", x, 0);
        T.due("28 as few, fewest above", x.both(1, 3, 1, 2), 3);
        T.dueRow("28 as few, fewest above", x, 1);
        T.due("28 up", x.both(0, 1, 1, 4), 3);
        T.dueRow("28 up", x, 2);
        T.due("28 on a stair", x.both(0, 0, 1, 0), 0);
        T.dueRow("28 on a stair", x, 0);
        T.due("28 not of that net", x.both(0, 3, 0, 0), -1);
        T.due("28 not of that net then", x.both(0, 0, 0, 3), -1);
        T.due("28 another level", x.both(2, 0, 0, 0), -1);
        T.due("28 another level then", x.both(0, 0, -1, 0), -1);
        T.due("28 no such cell", x.both(0, 6, 0, 0), -1);
        T.due("28 no such cell then", x.both(0, 0, 0, -1), -1);
        Tester.town(x, ".h");
        T.due("28 one can't", x.both(0, 0, 1, 1), -2);
        Tester.town(x, "s#s/h.h");
        T.due("28 not yet", x.both(0, 0, 0, 2), -2);
        x.plank(0, 2);
        T.due("28 over a plank", x.both(0, 0, 0, 2), 1);
        T.dueRow("28 over a plank", x, 1);
    }

    private static void errand() {
        WomenByTheRoofs x = Tester.made("s.s/hhh", "m1:o;w4:o");
        T.due("29 by the first stair", x.errand(1, 4), 4);
        T.dueRow("29 by the first stair", x, 0, 1, 0);
        T.due("29 to the right", x.errand(1, 5), 3);
        T.dueRow("29 to the right", x, 0, 1, 2);
        T.due("29 fetches it first", x.errand(0, 3), 3);
        T.dueRow("29 fetches it first", x, 0, 1, 0);
        T.due("29 stair to stair", x.errand(2, 2), 2);
        T.due("29 from a house", x.errand(3, 4), -1);
        T.due("29 to a street", x.errand(1, 1), -1);
        T.due("29 no such cell", x.errand(6, 4), -1);
        T.due("29 no such cell then", x.errand(1, -1), -1);
        Tester.folk(x, "m0:o;m0:o;w3:o;w3:o");
        T.due("29 the soonest", x.errand(0, 3), 2);
        T.dueRow("29 the soonest, the least row", x, 0, 4, 0);
        WomenByTheRoofs y = Tester.made("s.s/hhh", "w4:o;m1:o;m1:o");
        T.due("29 of as soon ones", y.errand(1, 4), 4);
        T.dueRow("29 of as soon ones", y, 1, 0, 0);
        WomenByTheRoofs f = Tester.made("s.s/hhh", "m1:o;w0:o");
        T.due("29 she is above", f.errand(1, 3), 2);
        f.feast(1);
        T.due("29 she is below", f.errand(1, 3), -2);
        WomenByTheRoofs n = Tester.made("s#./hhh", "m2:o;w3:o");
        T.due("29 he can't", n.errand(2, 4), -2);
        T.due("29 without people", Tester.made("s", "").errand(0, 0), -2);
    }

    private static void tryst() {
        WomenByTheRoofs x = Tester.made("s.s/hhh", "m1:o;w4:o;m2:o;w5:o;w2:o");
        T.due("30 of equal ones the first", x.tryst(0, 1), 0);
        T.dueRow("30 of equal ones the first", x, 2);
        T.due("30 at the right", x.tryst(0, 3), 2);
        T.dueRow("30 at the right", x, 1);
        T.due("30 there now", x.tryst(2, 4), 2);
        T.dueRow("30 there now", x, 0);
        T.due("30 a woman and a man", x.tryst(1, 0), -1);
        T.due("30 two men", x.tryst(0, 2), -1);
        T.due("30 two women", x.tryst(1, 3), -1);
        T.due("30 others", x.tryst(0, 5), -1);
        T.due("30 others below 0", x.tryst(-1, 1), -1);
        WomenByTheRoofs n = Tester.made("./h", "m0:o;w1:o");
        T.due("30 none", n.tryst(0, 1), -2);
        WomenByTheRoofs f = Tester.made("s.s/h..", "m2:o;w0:o");
        T.due("30 she is above", f.tryst(0, 1), 0);
        T.dueRow("30 she is above", f, 2);
        f.feast(1);
        f.minute();
        T.due("30 by streets too", f.tryst(0, 1), 0);
    }

    private static void open() {
        WomenByTheRoofs x = Tester.made("s.s/hhh", "m1:o;w4:o");
        T.due("31 the first of equal ones", x.open(0, 1), 1);
        T.dueRow("31 the first of equal ones", x, 1);
        T.due("31 a woman and a man", x.open(1, 0), -1);
        T.due("31 others", x.open(0, 2), -1);
        T.due("31 nothing changes", x.cell(1, 0), 1);
        T.due("31 nor nets", x.pieces(1), 1);
        WomenByTheRoofs y = Tester.made("h.h", "m1:o;w2:o");
        T.due("31 in the midst", y.open(0, 1), 1);
        T.dueRow("31 in the midst", y, 1);
        y.plank(0, 2);
        T.due("31 not under a plank", y.open(0, 1), 0);
        T.dueRow("31 not under a plank", y, 1);
        WomenByTheRoofs n = Tester.made(".#h", "m0:o;w2:o");
        T.due("31 none lets them", n.open(0, 1), -2);
        WomenByTheRoofs s = Tester.made("ss", "m0:o;w0:o");
        T.due("31 no cell is there", s.open(0, 1), -2);
        WomenByTheRoofs e = Tester.made("#.s/h##", "m2:o;w2:o");
        T.due("31 no worse than it was", e.open(0, 1), 1);
        T.dueRow("31 no worse than it was", e, 0);
    }

    private static void part() {
        WomenByTheRoofs x = Tester.made("s.s/hhh", "m1:o;w4:o;m0:o;w0:o");
        T.due("32 two", x.part(0, 1), 2);
        T.dueRow("32 two", x, 0, 2);
        T.due("32 he is on one", x.part(2, 1), -2);
        T.due("32 she is on one", x.part(0, 3), -2);
        T.due("32 a woman and a man", x.part(1, 0), -1);
        T.due("32 others", x.part(0, 4), -1);
        T.due("32 nothing changes", x.cell(0, 0), 3);
        WomenByTheRoofs n = Tester.made("./h", "m0:o;w1:o");
        n.pieces(0);
        T.due("32 none need be", n.part(0, 1), 0);
        T.dueRow("32 none need be", n);
        WomenByTheRoofs three = Tester.made("hhh/sss/...", "m6:o;w0:o");
        T.due("32 three", three.part(0, 1), 3);
        T.dueRow("32 three", three, 3, 4, 5);
        WomenByTheRoofs four = Tester.made("hhhh/ssss/....", "m8:o;w0:o");
        T.due("32 not by three", four.part(0, 1), -2);
        WomenByTheRoofs cut = Tester.made(".s.s/#h#h/#hhh", "m0:o;w10:o");
        T.due("32 he can't go by a house", cut.part(0, 1), 1);
        T.dueRow("32 he can't go by a house", cut, 1);
        WomenByTheRoofs far = Tester.made(".s.s/###h/####", "m0:o;w7:o");
        T.due("32 of as few the least row", far.part(0, 1), 1);
        T.dueRow("32 of as few the least row", far, 1);
        WomenByTheRoofs roof = Tester.made("hs/.s", "m2:o;w0:o");
        T.due("32 she still goes by it", roof.part(0, 1), 1);
        T.dueRow("32 she still goes by it", roof, 3);
    }

    private static void planks() {
        WomenByTheRoofs x = Tester.made("h.h.h/.....", "");
        T.due("33 two", x.planks(0, 4), 2);
        T.dueRow("33 two", x, 2);
        x.plank(0, 2);
        T.due("33 one more", x.planks(4, 0), 1);
        T.dueRow("33 one more", x, 2);
        T.due("33 none", x.planks(0, 0), 0);
        T.dueRow("33 none", x, 0);
        T.due("33 no roof", x.planks(0, 1), -1);
        T.due("33 no roof first", x.planks(1, 0), -1);
        T.due("33 no such cell", x.planks(0, 10), -1);
        T.due("33 no such cell below 0", x.planks(-1, 0), -1);
        Tester.town(x, "h..h");
        T.due("33 by none", x.planks(0, 3), -2);
        Tester.town(x, "hhh/h.h");
        T.due("33 none is needed", x.planks(3, 5), 0);
        T.dueRow("33 none is needed", x, 4);
        Tester.town(x, "h.h.h/...../h.h.h/...../h.h.h");
        T.due("33 four", x.planks(0, 24), 4);
        for (int i : new int[] {0, 2, 10, 12, 20, 22}) {
            x.plank(i, i + 2);
        }
        T.due("33 no matter how many there are", x.planks(0, 24), 2);
        T.dueRow("33 no matter how many there are", x, 4);
        T.due("33 nothing changes", x.count(4), 6);
        Tester.town(x, "h#s/#.#/s#h");
        T.due("33 over neither", x.planks(0, 8), 2);
        T.dueRow("33 over neither", x, 2);
    }
}
