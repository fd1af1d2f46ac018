import java.util.Arrays;

/** The sentences of promises 25 to 33 that name an edge, each with tests of its own. */
public final class EdgesOfNetsTest {
    private static final Tester T = new Tester("EdgesOfNetsTest");
    private static final int LEAST = Integer.MIN_VALUE;
    private static final int MOST = Integer.MAX_VALUE;
    private static final int HALF = (1 << 18) - 1;
    private static final String STAIRS = "ssssss/ssssss/ssssss/ssssss/ssssss/ssssss";
    private static final String SNAKE = "ssssss/#####s/ssssss/s#####/ssssss/#####s";

    public static void main(String[] args) {
        piecesOfNone();
        piecesOfAll();
        reachOfHalves();
        reachOfNone();
        pathsOfNone();
        pathsOfTen();
        leastPaths();
        bothOfNone();
        fewestAbove();
        errandsOfNone();
        errandsAtOnce();
        leastErrands();
        trysts();
        trystsOfOthers();
        opened();
        openedOfNone();
        partedByNone();
        partedByThree();
        partedButForTheirOwn();
        planksOfNone();
        planksNoMatterHowMany();
        T.finish();
    }

    private static WomenByTheRoofs town(String text) {
        return Tester.made(text, "");
    }

    // ---- 25

    /** "(of equal ones the first; 0, NONE without)"; "NONE: others". */
    private static void piecesOfNone() {
        WomenByTheRoofs none = town("###/###");
        T.asked("25 without, below", none, () -> none.pieces(0), 0, 0, -1);
        T.asked("25 without, above", none, () -> none.pieces(1), 0, 0, -1);
        WomenByTheRoofs streets = town("..");
        T.asked("25 streets, above", streets, () -> streets.pieces(1), 0, 0, -1);
        T.asked("25 streets, below", streets, () -> streets.pieces(0), 1, 2, 0);
        WomenByTheRoofs houses = town("hh");
        T.asked("25 houses, below", houses, () -> houses.pieces(0), 0, 0, -1);
        for (int level : new int[] {-1, 2, LEAST, MOST}) {
            T.refused("25 others", houses, () -> houses.pieces(level), -1);
        }
        WomenByTheRoofs equal = town("#.#/.#./#.#");
        T.asked("25 of equal ones the first", equal, () -> equal.pieces(0), 4, 1, 1);
        WomenByTheRoofs later = town(".#../#.#.");
        T.asked("25 the largest, its least cell", later, () -> later.pieces(0), 3, 3, 2);
        WomenByTheRoofs two = town("..#/##s/#..");
        T.asked("25 of two and three", two, () -> two.pieces(0), 2, 3, 5);
        WomenByTheRoofs tied = town("..#..");
        T.asked("25 of two twos the first", tied, () -> tied.pieces(0), 2, 2, 0);
    }

    private static void piecesOfAll() {
        WomenByTheRoofs all = town(STAIRS);
        T.asked("25 all, below", all, () -> all.pieces(0), 1, 36, 0);
        T.asked("25 all, above", all, () -> all.pieces(1), 1, 36, 0);
        WomenByTheRoofs board = town("h.h.h./.h.h.h/h.h.h./.h.h.h/h.h.h./.h.h.h");
        T.asked("25 a board, above", board, () -> board.pieces(1), 18, 1, 0);
        T.asked("25 a board, below", board, () -> board.pieces(0), 18, 1, 1);
        board.plank(33, 35);
        T.asked("25 a board with a plank", board, () -> board.pieces(1), 17, 2, 33);
        WomenByTheRoofs edge = town(".##/##./.##");
        T.asked("25 a row's end is not beside the next row", edge, () -> edge.pieces(0), 3, 1, 0);
        WomenByTheRoofs last = town("######/######/######/######/######/#####.");
        T.asked("25 the last cell alone", last, () -> last.pieces(0), 1, 1, 35);
    }

    // ---- 26

    /** "sets of CELLS two numbers: bits of CELLS 0 .. 17, of 18 .. 35". */
    private static void reachOfHalves() {
        WomenByTheRoofs all = town(STAIRS);
        T.asked("26 all", all, () -> all.reach(0, 35), 36, HALF, HALF);
        WomenByTheRoofs low = town("....../....../....../hhhhhh/hhhhhh/hhhhhh");
        T.asked("26 the first half", low, () -> low.reach(0, 17), 18, HALF, 0);
        T.asked("26 the second half", low, () -> low.reach(1, 18), 18, 0, HALF);
        WomenByTheRoofs over = town("######/######/#####./#####./######/######");
        T.asked("26 17 and 23", over, () -> over.reach(0, 17), 2, 1 << 17, 1 << 5);
        WomenByTheRoofs four = town("######/######/.#####/.#####/######/#####.");
        T.asked("26 12 and 18", four, () -> four.reach(0, 18), 2, 1 << 12, 1);
        T.asked("26 35 alone", four, () -> four.reach(0, 35), 1, 0, 1 << 17);
        WomenByTheRoofs plank = town("######/h#####/.#####/h#####/######/######");
        plank.plank(18, 6);
        T.asked("26 over a plank", plank, () -> plank.reach(1, 6), 2, 1 << 6, 1);
    }

    /** "-2: it is not of that net; NONE: others". */
    private static void reachOfNone() {
        WomenByTheRoofs x = town("#.hs");
        int[][] want = {{-2, 1, -2, 1}, {-2, -2, 2, 2}};
        for (int level = 0; level < 2; level++) {
            for (int cell = 0; cell < 4; cell++) {
                T.due("26 reach(" + level + ", " + cell + ")", x.reach(level, cell), want[level][cell]);
            }
            int of = level;
            for (int none : new int[] {-1, 4, 36, LEAST, MOST}) {
                T.refused("26 no such cell", x, () -> x.reach(of, none), -1);
            }
        }
        for (int level : new int[] {-1, 2, LEAST, MOST}) {
            T.refused("26 no such level", x, () -> x.reach(level, 3), -1);
            T.refused("26 no such level of a cell of no net", x, () -> x.reach(level, 0), -1);
        }
    }

    // ---- 27

    /** "-2: one can't; NONE: no such CELLS, not of that net, another level". */
    private static void pathsOfNone() {
        WomenByTheRoofs x = town("s.#s/h##h");
        T.asked("27 no step", x, () -> x.path(0, 0, 0), 0);
        T.asked("27 no step above", x, () -> x.path(1, 7, 7), 0);
        T.refused("27 one can't, below", x, () -> x.path(0, 1, 3), -2);
        T.refused("27 one can't, above", x, () -> x.path(1, 4, 7), -2);
        T.refused("27 from a cell not of that net", x, () -> x.path(0, 4, 0), -1);
        T.refused("27 to a cell not of that net", x, () -> x.path(1, 0, 1), -1);
        T.refused("27 of neither net", x, () -> x.path(0, 2, 2), -1);
        T.refused("27 from no such cell", x, () -> x.path(0, 8, 0), -1);
        T.refused("27 to no such cell", x, () -> x.path(0, 0, -1), -1);
        T.refused("27 the most", x, () -> x.path(0, MOST, LEAST), -1);
        T.refused("27 another level", x, () -> x.path(2, 0, 0), -1);
        T.refused("27 another level below 0", x, () -> x.path(-1, 0, 0), -1);
        WomenByTheRoofs edge = town("..#/#..");
        T.asked("27 not round the edge", edge, () -> edge.path(0, 0, 5), 3, 1, 2, 1);
        WomenByTheRoofs last = town("....../....../....../....../.....#/....#.");
        T.refused("27 one can't from the last cell", last, () -> last.path(0, 35, 0), -2);
        T.refused("27 one can't to the last cell", last, () -> last.path(0, 0, 35), -2);
        T.asked("27 no step in the last cell", last, () -> last.path(0, 35, 35), 0);
        T.refused("27 one can't from it still", last, () -> last.path(0, 35, 0), -2);
        WomenByTheRoofs far = town("#.#/.#.");
        T.refused("27 a row's end is not beside the next row", far, () -> far.path(0, 1, 3), -2);
    }

    /** "the ROW: steps (the first 10)". */
    private static void pathsOfTen() {
        WomenByTheRoofs x = town(SNAKE);
        int[] way = {1, 1, 1, 1, 1, 2, 2, 3, 3, 3, 3, 3, 2, 2, 1, 1, 1, 1, 1, 2};
        int cell = 0;
        int[] move = {-6, 1, 6, -1};
        for (int steps = 0; steps <= 20; steps++) {
            int to = cell;
            int[] row = Arrays.copyOf(way, Math.min(steps, 10));
            T.asked("27 of " + steps + " below", x, () -> x.path(0, 0, to), steps, row);
            T.asked("27 of " + steps + " above", x, () -> x.path(1, 0, to), steps, row);
            cell += steps < 20 ? move[way[steps]] : 0;
        }
        T.due("27 it ends in the last cell", cell, 35);
        T.asked("27 and back", x, () -> x.path(0, 35, 0), 20, 0, 3, 3, 3, 3, 3, 0, 0, 1, 1);
    }

    /** "of as few the least row". */
    private static void leastPaths() {
        WomenByTheRoofs x = town(STAIRS);
        T.asked("27 right ahead of down", x, () -> x.path(0, 0, 7), 2, 1, 2);
        T.asked("27 up ahead of left", x, () -> x.path(0, 7, 0), 2, 0, 3);
        T.asked("27 up ahead of right", x, () -> x.path(0, 6, 1), 2, 0, 1);
        T.asked("27 down ahead of left", x, () -> x.path(0, 1, 6), 2, 2, 3);
        T.asked("27 from corner to corner", x, () -> x.path(1, 0, 35), 10, 1, 1, 1, 1, 1, 2, 2, 2, 2, 2);
        T.asked("27 from corner to corner back", x, () -> x.path(1, 35, 0), 10, 0, 0, 0, 0, 0, 3, 3, 3, 3, 3);
        WomenByTheRoofs p = town("h.h/h#h/hhh");
        T.asked("27 round", p, () -> p.path(1, 0, 2), 6, 2, 2, 1, 1, 0, 0);
        p.plank(3, 5);
        T.asked("27 by a plank", p, () -> p.path(1, 0, 2), 3, 2, 1, 0);
        p.plank(2, 0);
        T.asked("27 by another", p, () -> p.path(1, 0, 2), 1, 1);
        T.asked("27 of two ways with planks the least", p, () -> p.path(1, 0, 5), 2, 1, 2);
        WomenByTheRoofs q = town("h.h/hhh");
        q.plank(0, 2);
        T.asked("27 not by one as far as itself", q, () -> q.path(1, 3, 5), 2, 1, 1);
    }

    // ---- 28

    /** "-2, NONE: likewise". */
    private static void bothOfNone() {
        WomenByTheRoofs x = town("s.#s/h##h");
        T.asked("28 no step", x, () -> x.both(0, 0, 0, 0), 0, 0);
        T.asked("28 no step, up", x, () -> x.both(0, 0, 1, 0), 0, 0);
        T.asked("28 no step, down", x, () -> x.both(1, 3, 0, 3), 0, 0);
        T.refused("28 one can't", x, () -> x.both(0, 1, 1, 7), -2);
        T.refused("28 one can't below", x, () -> x.both(0, 1, 0, 3), -2);
        T.refused("28 from a cell not of that level", x, () -> x.both(1, 1, 0, 0), -1);
        T.refused("28 to a cell not of that level", x, () -> x.both(0, 1, 0, 4), -1);
        T.refused("28 of neither", x, () -> x.both(0, 2, 1, 2), -1);
        T.refused("28 from no such cell", x, () -> x.both(0, 8, 0, 0), -1);
        T.refused("28 to no such cell", x, () -> x.both(0, 0, 0, 8), -1);
        T.refused("28 from another level", x, () -> x.both(2, 0, 0, 0), -1);
        T.refused("28 to another level", x, () -> x.both(0, 0, 2, 0), -1);
        T.refused("28 the least", x, () -> x.both(LEAST, LEAST, LEAST, LEAST), -1);
        WomenByTheRoofs no = town(".h");
        T.refused("28 there is no stair", no, () -> no.both(0, 0, 1, 1), -2);
    }

    /** "Of as few the fewest above." */
    private static void fewestAbove() {
        WomenByTheRoofs all = town(STAIRS);
        T.asked("28 none need be above", all, () -> all.both(1, 0, 1, 35), 10, 0);
        T.asked("28 nor from below", all, () -> all.both(0, 0, 1, 35), 10, 0);
        WomenByTheRoofs x = town("shs/.##/s.s");
        T.asked("28 above is the only way", x, () -> x.both(0, 0, 0, 2), 2, 2);
        T.asked("28 below is the only way", x, () -> x.both(1, 0, 1, 6), 2, 0);
        T.asked("28 both are", x, () -> x.both(1, 6, 1, 2), 4, 2);
        WomenByTheRoofs s = town(SNAKE);
        T.asked("28 twenty", s, () -> s.both(1, 0, 1, 35), 20, 0);
        WomenByTheRoofs h = town(SNAKE.replace("s", "h"));
        T.asked("28 twenty above", h, () -> h.both(1, 0, 1, 35), 20, 20);
        WomenByTheRoofs p = town("s.s/.#./...");
        T.asked("28 below", p, () -> p.both(0, 0, 0, 2), 2, 0);
        p.plank(0, 2);
        T.asked("28 fewer steps are ahead of fewer above", p, () -> p.both(0, 0, 0, 2), 1, 1);
    }

    // ---- 29

    /** "-2: none can; NONE: no such CELLS, not of these nets". */
    private static void errandsOfNone() {
        WomenByTheRoofs x = Tester.made("s.h#", "m1:o;w2:o");
        T.refused("29 from a house", x, () -> x.errand(2, 0), -1);
        T.refused("29 from neither", x, () -> x.errand(3, 0), -1);
        T.refused("29 to a street", x, () -> x.errand(1, 1), -1);
        T.refused("29 to neither", x, () -> x.errand(1, 3), -1);
        T.refused("29 from no such cell", x, () -> x.errand(4, 0), -1);
        T.refused("29 to no such cell", x, () -> x.errand(0, 4), -1);
        T.refused("29 below 0", x, () -> x.errand(-1, -1), -1);
        T.refused("29 she can't come to the stair", x, () -> x.errand(1, 0), -2);
        x.plank(0, 2);
        T.asked("29 over a plank she can", x, () -> x.errand(1, 0), 1, 0, 1, 0);
        T.asked("29 and bring it on", x, () -> x.errand(1, 2), 2, 0, 1, 0);
        WomenByTheRoofs none = town("s");
        T.refused("29 nobody", none, () -> none.errand(0, 0), -2);
        WomenByTheRoofs man = Tester.made("s", "m0:o");
        T.refused("29 no woman", man, () -> man.errand(0, 0), -2);
        WomenByTheRoofs woman = Tester.made("s", "w0:o");
        T.refused("29 no man", woman, () -> woman.errand(0, 0), -2);
        WomenByTheRoofs cut = Tester.made("s#.", "m2:o;w0:o");
        T.refused("29 he can't come to it", cut, () -> cut.errand(0, 0), -2);
        T.refused("29 he can't bring it", cut, () -> cut.errand(2, 0), -2);
        WomenByTheRoofs roof = Tester.made("s#h", "m0:o;w0:o");
        T.refused("29 she can't bring it on", roof, () -> roof.errand(0, 2), -2);
        WomenByTheRoofs feast = Tester.made("s", "m0:o;w0:o");
        feast.feast(1);
        T.refused("29 she is not above", feast, () -> feast.errand(0, 0), -2);
        Tester.folk(feast, "w0:o");
        T.asked("29 another is", feast, () -> feast.errand(0, 0), 0, 0, 2, 0);
        WomenByTheRoofs stairs = Tester.made(".h", "m0:o;w1:o");
        T.refused("29 no stair", stairs, () -> stairs.errand(0, 1), -2);
    }

    /** "(who is there first waits)". */
    private static void errandsAtOnce() {
        WomenByTheRoofs x = Tester.made("s", "m0:o;w0:o");
        T.asked("29 at once", x, () -> x.errand(0, 0), 0, 0, 1, 0);
        WomenByTheRoofs he = Tester.made("s...../hhhhhh", "m5:o;w6:o");
        T.asked("29 she waits", he, () -> he.errand(5, 6), 6, 0, 1, 0);
        WomenByTheRoofs she = Tester.made("s...../hhhhhh", "m0:o;w11:o");
        T.asked("29 he waits", she, () -> she.errand(0, 6), 7, 0, 1, 0);
        T.asked("29 he fetches it while she comes", she, () -> she.errand(3, 6), 7, 0, 1, 0);
        T.asked("29 he is as late as she", she, () -> she.errand(3, 0), 6, 0, 1, 0);
        T.asked("29 then she waits", she, () -> she.errand(4, 0), 8, 0, 1, 0);
    }

    /** "of as soon ones the least row". */
    private static void leastErrands() {
        WomenByTheRoofs x = Tester.made("s.s/hhh", "w4:o;m1:o;m1:o;w4:o");
        T.asked("29 the first man, the first woman, the first stair", x, () -> x.errand(1, 4), 4, 1, 0, 0);
        WomenByTheRoofs y = Tester.made("s.s/hhh", "m2:o;m0:o;w4:o");
        T.asked("29 he is as soon as the other, who is on it", y, () -> y.errand(0, 3), 3, 0, 2, 0);
        T.asked("29 the first man though the other stair", y, () -> y.errand(1, 4), 4, 0, 2, 0);
        T.asked("29 the soonest stair", y, () -> y.errand(1, 5), 3, 0, 2, 2);
        WomenByTheRoofs z = Tester.made("s.s/hhh", "m2:o;m0:o;w4:o;w3:o");
        T.asked("29 sooner ones ahead of the first", z, () -> z.errand(0, 3), 2, 1, 3, 0);
    }

    // ---- 30

    /** "of equal ones the first"; "-2: none". */
    private static void trysts() {
        WomenByTheRoofs x = Tester.made("s.s/hhh", "m1:o;w4:o");
        T.asked("30 of equal ones the first", x, () -> x.tryst(0, 1), 0, 2);
        WomenByTheRoofs now = Tester.made("ss", "m1:o;w1:o");
        T.asked("30 at once", now, () -> now.tryst(0, 1), 1, 0);
        WomenByTheRoofs last = Tester.made("######/######/######/######/######/##.ssh", "m32:o;w35:o");
        T.asked("30 of equal ones the first, far down", last, () -> last.tryst(0, 1), 33, 2);
        WomenByTheRoofs corner = Tester.made("######/######/######/######/#####h/####.s", "m34:o;w29:o");
        T.asked("30 in the last cell", corner, () -> corner.tryst(0, 1), 35, 1);
        T.asked("32 the last cell", corner, () -> corner.part(0, 1), 1, 35);
        WomenByTheRoofs out = Tester.made("######/######/######/######/#####h/###.#s", "m33:o;w29:o");
        T.refused("30 the last cell, he can't", out, () -> out.tryst(0, 1), -2);
        WomenByTheRoofs snake = Tester.made(SNAKE, "m0:o;w35:o");
        T.asked("30 midway", snake, () -> snake.tryst(0, 1), 14, 10);
        WomenByTheRoofs none = Tester.made(".h", "m0:o;w1:o");
        T.refused("30 no stair", none, () -> none.tryst(0, 1), -2);
        WomenByTheRoofs his = Tester.made("s#h", "m0:o;w2:o");
        T.refused("30 she can't", his, () -> his.tryst(0, 1), -2);
        WomenByTheRoofs hers = Tester.made("s#.", "w0:o;m2:o");
        T.refused("30 he can't", hers, () -> hers.tryst(1, 0), -2);
        WomenByTheRoofs each = Tester.made("s.#hs", "m1:o;w3:o");
        T.refused("30 each another one", each, () -> each.tryst(0, 1), -2);
        WomenByTheRoofs plank = Tester.made("s.h", "m0:o;w2:o");
        T.refused("30 not yet", plank, () -> plank.tryst(0, 1), -2);
        plank.plank(0, 2);
        T.asked("30 over a plank", plank, () -> plank.tryst(0, 1), 0, 1);
    }

    /** "NONE: others, not a man and a woman". */
    private static void trystsOfOthers() {
        WomenByTheRoofs x = Tester.made("s", "m0:o;w0:o;m0:o;w0:o");
        for (int one = -1; one <= 4; one++) {
            for (int other = -1; other <= 4; other++) {
                boolean two = (one == 0 || one == 2) && (other == 1 || other == 3);
                T.due("30 tryst(" + one + ", " + other + ")", x.tryst(one, other), two ? 0 : -1);
                T.due("31 open(" + one + ", " + other + ")", x.open(one, other), two ? -2 : -1);
                T.due("32 part(" + one + ", " + other + ")", x.part(one, other), two ? -2 : -1);
            }
        }
        T.due("30 the least and the most", x.tryst(LEAST, MOST), -1);
        T.due("31 the least and the most", x.open(LEAST, MOST), -1);
        T.due("32 the least and the most", x.part(LEAST, MOST), -1);
    }

    // ---- 31

    /** "The CELL (a street or a house, no PLANK over it)"; "of equal ones the first". */
    private static void opened() {
        WomenByTheRoofs x = Tester.made(".h", "m0:o;w1:o");
        T.asked("31 of a street and a house the first", x, () -> x.open(0, 1), 0, 1);
        WomenByTheRoofs y = Tester.made("h.", "m1:o;w0:o");
        T.asked("31 of a house and a street the first", y, () -> y.open(0, 1), 0, 1);
        WomenByTheRoofs p = Tester.made("h.h", "m1:o;w0:o");
        T.asked("31 a house beside him", p, () -> p.open(0, 1), 0, 1);
        WomenByTheRoofs q = Tester.made("h.h/#.#", "m4:o;w0:o");
        T.asked("31 the street between them", q, () -> q.open(0, 1), 1, 1);
        q.plank(0, 2);
        T.asked("31 not with a plank over it", q, () -> q.open(0, 1), 0, 2);
        WomenByTheRoofs s = Tester.made("s./hh", "m0:o;w0:o");
        T.asked("31 they are together already: the first of all", s, () -> s.open(0, 1), 1, 0);
        WomenByTheRoofs stairs = Tester.made("s.h", "m0:o;w2:o");
        T.asked("31 a stair that is there is no such cell", stairs, () -> stairs.open(0, 1), 1, 1);
        WomenByTheRoofs far = Tester.made("######/######/######/######/######/####.h", "m34:o;w35:o");
        T.asked("31 far down", far, () -> far.open(0, 1), 34, 1);
        WomenByTheRoofs shut = Tester.made("#s..", "m3:o;w1:o");
        T.asked("31 a new roof joins the old ones", shut, () -> shut.open(0, 1), 2, 1);
    }

    /** "-2: none lets them". */
    private static void openedOfNone() {
        WomenByTheRoofs apart = Tester.made(".#h", "m0:o;w2:o");
        T.refused("31 too far apart", apart, () -> apart.open(0, 1), -2);
        WomenByTheRoofs stairs = Tester.made("ss", "m0:o;w1:o");
        T.refused("31 all are stairs", stairs, () -> stairs.open(0, 1), -2);
        WomenByTheRoofs neither = Tester.made("s#", "m0:o;w0:o");
        T.refused("31 neither is no such cell", neither, () -> neither.open(0, 1), -2);
        WomenByTheRoofs six = Tester.made("h.h.h/...../h.h.h", "m1:o;w2:o");
        int[][] laid = {{2, 4}, {10, 12}, {12, 14}, {0, 10}, {4, 14}, {0, 2}};
        T.asked("31 under no plank", six, () -> six.open(0, 1), 1, 1);
        for (int[] two : laid) {
            six.plank(two[0], two[1]);
        }
        T.asked("31 not under the sixth plank", six, () -> six.open(0, 1), 0, 1);
        WomenByTheRoofs under = Tester.made("s.s", "m0:o;w2:o");
        under.plank(0, 2);
        T.refused("31 the only one is under a plank", under, () -> under.open(0, 1), -2);
    }

    // ---- 32

    private static void partedByNone() {
        WomenByTheRoofs x = Tester.made(".h", "m0:o;w1:o");
        x.pieces(0);
        T.asked("32 none need be", x, () -> x.part(0, 1), 0);
        WomenByTheRoofs y = Tester.made("s#h", "m0:o;w2:o");
        T.asked("32 she can't come", y, () -> y.part(0, 1), 0);
    }

    /** "The fewest stairs (3 at most ..)"; "of as few the least row. -2: not by 3". */
    private static void partedByThree() {
        WomenByTheRoofs one = Tester.made(".sh", "m0:o;w2:o");
        T.asked("32 one", one, () -> one.part(0, 1), 1, 1);
        WomenByTheRoofs two = Tester.made("../ss/hh", "m0:o;w5:o");
        T.asked("32 two", two, () -> two.part(0, 1), 2, 2, 3);
        WomenByTheRoofs three = Tester.made(".../sss/hhh", "m0:o;w8:o");
        T.asked("32 three", three, () -> three.part(0, 1), 3, 3, 4, 5);
        WomenByTheRoofs four = Tester.made("..../ssss/hhhh", "m0:o;w11:o");
        T.refused("32 not by three", four, () -> four.part(0, 1), -2);
        WomenByTheRoofs least = Tester.made(".ss/##h", "m0:o;w5:o");
        T.asked("32 of as few the least row", least, () -> least.part(0, 1), 1, 1);
        WomenByTheRoofs all = Tester.made(STAIRS, "m0:o;w35:o");
        T.refused("32 stairs everywhere", all, () -> all.part(0, 1), -2);
        WomenByTheRoofs edge = Tester.made("######/######/######/######/##.sss/##hhhh", "m26:o;w32:o");
        T.asked("32 one of three, far down", edge, () -> edge.part(0, 1), 1, 27);
    }

    /** "none on which one of the two is". */
    private static void partedButForTheirOwn() {
        WomenByTheRoofs his = Tester.made("sh", "m0:o;w1:o");
        T.refused("32 his own", his, () -> his.part(0, 1), -2);
        WomenByTheRoofs hers = Tester.made(".s", "m0:o;w1:o");
        T.refused("32 her own", hers, () -> hers.part(0, 1), -2);
        WomenByTheRoofs away = Tester.made(".ss/###", "m0:o;w2:o");
        T.asked("32 her own, but he can't come", away, () -> away.part(0, 1), 1, 1);
        WomenByTheRoofs other = Tester.made(".sh", "m0:o;w2:o;m1:o;w1:o");
        T.asked("32 others may be on it", other, () -> other.part(0, 1), 1, 1);
        WomenByTheRoofs roof = Tester.made("hs/.s", "m2:o;w0:o");
        T.asked("32 a stair made a house is a roof still", roof, () -> roof.part(0, 1), 1, 3);
    }

    // ---- 33

    /** "-2: by none; NONE: no such CELLS, no roofs". */
    private static void planksOfNone() {
        WomenByTheRoofs x = town("h.h..s/#.####");
        T.asked("33 none is needed", x, () -> x.planks(0, 0), 0, 0);
        T.asked("33 one", x, () -> x.planks(0, 2), 1, 1);
        T.refused("33 by none", x, () -> x.planks(0, 5), -2);
        T.refused("33 from a street", x, () -> x.planks(1, 0), -1);
        T.refused("33 to neither", x, () -> x.planks(0, 6), -1);
        T.refused("33 from no such cell", x, () -> x.planks(12, 0), -1);
        T.refused("33 to no such cell", x, () -> x.planks(0, -1), -1);
        T.refused("33 the most", x, () -> x.planks(MOST, LEAST), -1);
        WomenByTheRoofs last = town("######/######/######/######/######/###h.h");
        T.asked("33 from the last cell", last, () -> last.planks(35, 33), 1, 1);
        T.asked("33 to the last cell", last, () -> last.planks(33, 35), 1, 1);
        WomenByTheRoofs edge = town("..h/.#./h..");
        T.refused("33 not round an edge", edge, () -> edge.planks(2, 6), -2);
        WomenByTheRoofs wrap = town("#h./h##");
        T.refused("33 two on by number", wrap, () -> wrap.planks(1, 3), -2);
    }

    /** "The fewest PLANKS more (no matter how many there are)"; "the fewest steps then". */
    private static void planksNoMatterHowMany() {
        WomenByTheRoofs x = town("h#h#h#/######/#####h/h#h#h#/######/h#h#h#");
        x.plank(0, 2);
        x.plank(2, 4);
        x.plank(18, 20);
        x.plank(20, 22);
        x.plank(18, 30);
        x.plank(30, 32);
        T.due("33 six are there", x.count(4), 6);
        T.asked("33 one more", x, () -> x.planks(18, 34), 1, 3);
        T.asked("33 none more", x, () -> x.planks(32, 22), 0, 4);
        WomenByTheRoofs row = town("h.h.h./....../....h./....../h.h.h./......");
        T.asked("33 six", row, () -> row.planks(0, 24), 6, 6);
        WomenByTheRoofs far = town("h#h#h#/#####h/h#h#h#/######/h#h#h#/#####h");
        T.asked("33 four", far, () -> far.planks(0, 28), 4, 4);
        WomenByTheRoofs few = town("hhhh/h.#h/h#hh");
        T.asked("33 fewer planks ahead of fewer steps", few, () -> few.planks(8, 10), 0, 8);
        WomenByTheRoofs two = town("h#h/hhh/#.#/h#h");
        T.refused("33 no plank of two cells", two, () -> two.planks(0, 6), -1);
        T.asked("33 of as few planks the fewest steps", two, () -> two.planks(0, 9), 1, 2);
    }
}
