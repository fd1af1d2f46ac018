import java.util.Arrays;

/** The sentences of promises 34 to 41 that name an edge, each with tests of its own. */
public final class EdgesOfFireTest {
    private static final Tester T = new Tester("EdgesOfFireTest");
    private static final int LEAST = Integer.MIN_VALUE;
    private static final int MOST = Integer.MAX_VALUE;
    private static final int HALF = (1 << 18) - 1;
    private static final String STAIRS = "ssssss/ssssss/ssssss/ssssss/ssssss/ssssss";
    private static final String SNAKE = "ssssss/#####s/ssssss/s#####/ssssss/#####s";

    public static void main(String[] args) {
        fires();
        fightsOfAnotherN();
        besideTheFire();
        savedOnes();
        savedOfNone();
        wardrobesOfNone();
        wardrobesOfTen();
        besideOneAnother();
        fleesOfOthers();
        fleesTillThirty();
        whoIsThereNow();
        lairsOfOthers();
        caughtAtTheLatest();
        watchersOfNone();
        watchersOfAll();
        T.finish();
    }

    // ---- 34

    /** "A FIRE is in a CELL (NONE: it is out): where it was (NONE: nowhere). -2: no such CELL." */
    private static void fires() {
        WomenByTheRoofs x = Tester.made("#.hs", "m1:o");
        x.tell(0);
        T.due("34 out already", x.fire(-1), -1);
        int was = -1;
        for (int cell = 0; cell < 4; cell++) {
            T.due("34 where it was", x.fire(cell), was);
            T.due("34 where it is", x.count(9), cell);
            was = cell;
        }
        T.due("34 the same again", x.fire(3), 3);
        for (int none : new int[] {4, -2, 35, 36, LEAST, MOST}) {
            T.refused("34 no such cell", x, () -> x.fire(none), -2);
        }
        T.due("34 out", x.fire(-1), 3);
        T.due("34 nowhere", x.count(9), -1);
        for (int none : new int[] {4, -2, 36, LEAST, MOST}) {
            T.refused("34 no such cell, out", x, () -> x.fire(none), -2);
        }
        x.fire(2);
        x.undo();
        T.due("34 it is not undone", x.count(9), 2);
        Tester.town(x, "s");
        T.due("34 none in a new town", x.count(9), -1);
        WomenByTheRoofs all = Tester.made(STAIRS, "");
        T.due("34 the last cell", all.fire(35), -1);
        T.due("34 one more", all.fire(36), -2);
    }

    // ---- 35

    /** "in n MINUTES (0 .. 60) or sooner"; "-2: there is none; NONE: another n". */
    private static void fightsOfAnotherN() {
        WomenByTheRoofs x = Tester.made(SNAKE, "m0:o;w0:o;m35:o");
        for (int n = 0; n <= 60; n += 20) {
            int of = n;
            T.refused("35 there is none", x, () -> x.fights(of), -2);
        }
        x.fire(35);
        for (int n : new int[] {-1, 61, LEAST, MOST}) {
            T.refused("35 another n", x, () -> x.fights(n), -1);
        }
        T.asked("35 at once nobody", x, () -> x.fights(0), 0, 0, 0);
        T.asked("35 in one", x, () -> x.fights(1), 4, 1, 0);
        T.asked("35 in 18", x, () -> x.fights(18), 4, 1, 0);
        T.asked("35 in 19", x, () -> x.fights(19), 7, 2, 1);
        T.asked("35 in 60", x, () -> x.fights(60), 7, 2, 1);
        WomenByTheRoofs none = Tester.made("s", "");
        none.fire(0);
        T.asked("35 nobody is there", none, () -> none.fights(60), 0, 0, 0);
        WomenByTheRoofs one = Tester.made("s", "m0:o;w0:o");
        one.fire(0);
        T.asked("35 nothing is beside it", one, () -> one.fights(60), 0, 0, 0);
    }

    /** "(a CELL above, right, below, left of it on the map, by their nets)". */
    private static void besideTheFire() {
        WomenByTheRoofs x = Tester.made("h.h/.#./h.h", "m1:o;m3:o;m5:o;m7:o;w0:o;w2:o;w6:o;w8:o");
        x.fire(4);
        T.asked("35 all four sides, not across", x, () -> x.fights(60), 0x0f, 4, 0);
        x.fire(1);
        T.asked("35 at the upper edge", x, () -> x.fights(0), 0b00110000, 0, 2);
        x.fire(0);
        T.asked("35 in a corner", x, () -> x.fights(0), 0b0011, 2, 0);
        x.fire(8);
        T.asked("35 in the last corner", x, () -> x.fights(0), 0b1100, 2, 0);
        WomenByTheRoofs edge = Tester.made("..h/h..", "w2:o;w3:o;m1:o;m4:o");
        edge.fire(2);
        T.asked("35 a row's end is not beside the next row", edge, () -> edge.fights(0), 4, 1, 0);
        edge.fire(3);
        T.asked("35 a row's start is not beside the last row", edge, () -> edge.fights(0), 8, 1, 0);
        WomenByTheRoofs in = Tester.made("ss", "m0:o;w1:o");
        in.fire(0);
        T.asked("35 who is in it is not beside it", in, () -> in.fights(0), 2, 0, 1);
        T.asked("35 but can step beside it", in, () -> in.fights(1), 3, 1, 1);
        WomenByTheRoofs plank = Tester.made("h.h#", "w0:o");
        plank.fire(3);
        T.asked("35 she can't", plank, () -> plank.fights(60), 0, 0, 0);
        plank.plank(0, 2);
        T.asked("35 over a plank she can", plank, () -> plank.fights(1), 1, 0, 1);
    }

    // ---- 36

    /** "(of each the soonest, of equal ones the first)". */
    private static void savedOnes() {
        WomenByTheRoofs x = Tester.made(STAIRS, "m0:o;w0:o;m34:o;w34:o;m34:o;w34:o");
        x.fire(35);
        T.asked("36 at once, the first of equal ones", x, x::saved, 0, 2, 3);
        x.fire(1);
        T.asked("36 at once, the others", x, x::saved, 0, 0, 1);
        x.fire(0);
        T.asked("36 in one", x, x::saved, 1, 0, 1);
        WomenByTheRoofs far = Tester.made(SNAKE, "m29:o;w0:o;m0:o");
        far.fire(35);
        T.asked("36 in 19, the later of the two counts", far, far::saved, 19, 0, 1);
        WomenByTheRoofs y = Tester.made("s.s/hhh", "w5:o;m0:o;w3:o");
        y.fire(4);
        T.asked("36 he comes in one", y, y::saved, 1, 1, 0);
    }

    /** "-2: there is none, or they can't". */
    private static void savedOfNone() {
        WomenByTheRoofs x = Tester.made("ss", "m0:o;w0:o");
        T.refused("36 there is none", x, x::saved, -2);
        x.fire(1);
        T.asked("36 there is one", x, x::saved, 0, 0, 1);
        x.fire(-1);
        T.refused("36 it is out", x, x::saved, -2);
        WomenByTheRoofs man = Tester.made("ss", "m0:o");
        man.fire(1);
        T.refused("36 no woman", man, man::saved, -2);
        WomenByTheRoofs woman = Tester.made("ss", "w0:o");
        woman.fire(1);
        T.refused("36 no man", woman, woman::saved, -2);
        WomenByTheRoofs none = Tester.made("ss", "");
        none.fire(1);
        T.refused("36 nobody", none, none::saved, -2);
        WomenByTheRoofs apart = Tester.made("h.#", "w0:o;m1:o");
        apart.fire(2);
        T.refused("36 she can't", apart, apart::saved, -2);
        apart.fire(1);
        T.refused("36 he can't", apart, apart::saved, -2);
        WomenByTheRoofs one = new WomenByTheRoofs();
        Tester.folk(one, "m0:o;w0:o");
        one.fire(0);
        T.refused("36 nothing is beside it", one, one::saved, -2);
    }

    // ---- 37

    /** "-2: it can't be; NONE: no such CELLS, no stairs". */
    private static void wardrobesOfNone() {
        WomenByTheRoofs x = Tester.made("s.h#s", "");
        T.asked("37 it is there", x, () -> x.wardrobe(0, 0), 0);
        T.refused("37 it can't be", x, () -> x.wardrobe(0, 4), -2);
        for (int none : new int[] {-1, 1, 2, 3, 5, 36, LEAST, MOST}) {
            T.refused("37 from no stair", x, () -> x.wardrobe(none, 0), -1);
            T.refused("37 to no stair", x, () -> x.wardrobe(0, none), -1);
            T.refused("37 of no stairs", x, () -> x.wardrobe(none, none), -1);
        }
        WomenByTheRoofs p = Tester.made("s.s/...", "");
        p.plank(0, 2);
        T.refused("37 no planks", p, () -> p.wardrobe(0, 2), -2);
        WomenByTheRoofs edge = Tester.made("#s/s#", "");
        T.refused("37 a row's end is not beside the next row", edge, () -> edge.wardrobe(1, 2), -2);
    }

    /** "the ROW: 10 times the step below, and the step above (the first 10)". */
    private static void wardrobesOfTen() {
        WomenByTheRoofs x = Tester.made(SNAKE, "");
        int[] way = {11, 11, 11, 11, 11, 22, 22, 33, 33, 33, 33, 33, 22, 22, 11, 11, 11, 11, 11, 22};
        int[] move = {-6, 1, 6, -1};
        int cell = 0;
        for (int steps = 0; steps <= 20; steps++) {
            int to = cell;
            int[] row = Arrays.copyOf(way, Math.min(steps, 10));
            T.asked("37 of " + steps, x, () -> x.wardrobe(0, to), steps, row);
            cell += steps < 20 ? move[way[steps] % 10] : 0;
        }
        WomenByTheRoofs all = Tester.made(STAIRS, "");
        T.asked("37 the least row", all, () -> all.wardrobe(0, 35), 10, 11, 11, 11, 11, 11, 22, 22, 22, 22, 22);
        T.asked("37 the least row back", all, () -> all.wardrobe(35, 0), 10, 0, 0, 0, 0, 0, 33, 33, 33, 33, 33);
        T.asked("37 each its own way", all, () -> all.wardrobe(0, 7), 2, 11, 22);
    }

    /** "so that both are on one CELL or beside one another then (above, right, below, left)". */
    private static void besideOneAnother() {
        WomenByTheRoofs x = Tester.made("s.s/hhh", "");
        T.asked("37 beside one another", x, () -> x.wardrobe(0, 2), 4, 42, 11, 11, 40);
        WomenByTheRoofs far = Tester.made("s.s/h#h/hhh", "");
        T.refused("37 two apart", far, () -> far.wardrobe(0, 2), -2);
        WomenByTheRoofs turn = Tester.made("s../hh./#hs", "");
        T.refused("37 across is not beside", turn, () -> turn.wardrobe(0, 8), -2);
        WomenByTheRoofs wide = Tester.made("s../hhs/#hs", "");
        T.asked("37 beside, two sides in turn", wide, () -> wide.wardrobe(0, 8), 5, 42, 11, 11, 22, 24);
    }

    // ---- 38

    /** "n MINUTES (1 .. 30)"; "NONE: others". */
    private static void fleesOfOthers() {
        WomenByTheRoofs x = Tester.made("#.hs", "");
        int[][] can = {{-1, 1, -1, 1}, {-1, -1, 1, 1}};
        for (int level = -1; level <= 2; level++) {
            for (int cell = -1; cell <= 4; cell++) {
                boolean such = level >= 0 && level < 2 && cell >= 0 && cell < 4;
                int want = such ? can[level][cell] : -1;
                T.due("38 flees(" + cell + ", " + level + ", 1)", x.flees(cell, level, 1), want);
                T.due("40 caught(" + cell + ", " + level + ")", x.caught(cell, level), want < 0 ? -1 : -2);
            }
        }
        for (int n : new int[] {-1, 0, 31, LEAST, MOST}) {
            T.refused("38 another n", x, () -> x.flees(3, 0, n), -1);
            T.refused("39 another n", x, () -> x.lairs(n), -1);
        }
        T.asked("38 it stays, steps, or changes level", x, () -> x.flees(3, 1, 1), 1, 8, 0, 12, 0);
        T.asked("38 not both in a minute", x, () -> x.flees(3, 0, 1), 1, 8, 0, 8, 0);
        T.asked("38 in two it can", x, () -> x.flees(3, 0, 2), 1, 8, 0, 12, 0);
        WomenByTheRoofs all = Tester.made(STAIRS, "");
        T.asked("38 in thirty all", all, () -> all.flees(0, 0, 30), 1, HALF, HALF, HALF, HALF);
        T.asked("38 in ten all but the last above", all, () -> all.flees(0, 0, 10), 1, HALF, HALF, HALF, HALF >> 1);
        WomenByTheRoofs edge = Tester.made("..#/#..", "");
        T.asked("38 not round the edge", edge, () -> edge.flees(1, 0, 1), 1, 0b010011, 0, 0, 0);
        WomenByTheRoofs plank = Tester.made("h.h", "");
        plank.plank(0, 2);
        T.asked("38 over a plank", plank, () -> plank.flees(2, 1, 1), 1, 0, 0, 5, 0);
    }

    private static void fleesTillThirty() {
        WomenByTheRoofs x = Tester.made("..", "m0:o;m0:r");
        Tester.rule(x, "m=29");
        T.asked("38 29 it can", x, () -> x.flees(1, 0, 29), 1, 2, 0, 0, 0);
        T.asked("38 30 it can't", x, () -> x.flees(1, 0, 30), 0, 0, 0, 0, 0);
        T.asked("39 29", x, () -> x.lairs(29), 2, 3, 0, 0, 0);
        T.asked("39 30", x, () -> x.lairs(30), 0, 0, 0, 0, 0);
        T.due("40 in thirty", x.caught(1, 0), 30);
        Tester.rule(x, "m=30");
        T.asked("38 30 it can then", x, () -> x.flees(1, 0, 30), 1, 2, 0, 0, 0);
        T.asked("39 30 then", x, () -> x.lairs(30), 2, 3, 0, 0, 0);
        T.due("40 not in thirty", x.caught(1, 0), -2);
    }

    /** "(Who is there now does not catch it.)"; "whoever is on its CELL and level then catches it". */
    private static void whoIsThereNow() {
        WomenByTheRoofs x = Tester.made("..", "m0:o");
        T.asked("38 it steps away from him", x, () -> x.flees(0, 0, 1), 1, 2, 0, 0, 0);
        WomenByTheRoofs goes = Tester.made("..", "m0:r");
        T.asked("38 he steps away from it", goes, () -> goes.flees(0, 0, 1), 1, 1, 0, 0, 0);
        T.asked("38 they pass one another", goes, () -> goes.flees(1, 0, 1), 1, 1, 0, 0, 0);
        WomenByTheRoofs one = Tester.made(".", "m0:o");
        T.asked("38 it has nowhere to go", one, () -> one.flees(0, 0, 1), 0, 0, 0, 0, 0);
        T.due("40 at once", one.caught(0, 0), 1);
        WomenByTheRoofs level = Tester.made("s", "m0:o");
        T.asked("38 it changes level", level, () -> level.flees(0, 0, 1), 1, 0, 0, 1, 0);
        T.asked("38 he is not of its level", level, () -> level.flees(0, 1, 1), 1, 0, 0, 1, 0);
        WomenByTheRoofs both = Tester.made("s", "m0:o;w0:o");
        T.asked("38 both levels are held", both, () -> both.flees(0, 0, 1), 0, 0, 0, 0, 0);
        both.feast(1);
        T.asked("38 all are below", both, () -> both.flees(0, 0, 1), 1, 0, 0, 1, 0);
    }

    // ---- 39

    private static void lairsOfOthers() {
        WomenByTheRoofs none = Tester.made("###", "");
        T.asked("39 no cells", none, () -> none.lairs(1), 0, 0, 0, 0, 0);
        WomenByTheRoofs all = Tester.made(STAIRS, "");
        T.asked("39 all", all, () -> all.lairs(30), 72, HALF, HALF, HALF, HALF);
        WomenByTheRoofs x = Tester.made(".#s/h##", "m0:o");
        T.asked("39 one", x, () -> x.lairs(1), 3, 4, 0, 12, 0);
        WomenByTheRoofs near = Tester.made("......", "m0:o;m1:o;m2:o");
        T.asked("39 the next but one can", near, () -> near.lairs(1), 4, 0b111100, 0, 0, 0);
        T.asked("39 in two it can't from nearer", near, () -> near.lairs(2), 4, 0b111100, 0, 0, 0);
        WomenByTheRoofs full = Tester.made("..", "m0:o;m1:o");
        T.asked("39 all are caught", full, () -> full.lairs(30), 0, 0, 0, 0, 0);
        Tester.town(full, "..");
        T.asked("39 nobody is there any more", full, () -> full.lairs(1), 2, 3, 0, 0, 0);
        T.asked("39 nor later", full, () -> full.lairs(29), 2, 3, 0, 0, 0);
        WomenByTheRoofs two = Tester.made("######/######/#####h/.#####/######/######", "w17:o;m18:o");
        T.asked("39 both are caught", two, () -> two.lairs(1), 0, 0, 0, 0, 0);
        WomenByTheRoofs half = Tester.made("######/######/#####h/.#####/######/######", "");
        T.asked("39 17 above, 18 below", half, () -> half.lairs(30), 2, 0, 1, 1 << 17, 0);
    }

    // ---- 40

    /** "After how many MINUTES (1 .. 30) it is caught at the latest. -2: it need not be in these". */
    private static void caughtAtTheLatest() {
        for (int after = 1; after <= 31; after++) {
            WomenByTheRoofs x = Tester.made("..", "m0:o;m0:r");
            Tester.rule(x, "m=" + (after - 1));
            T.due("40 after " + after, x.caught(1, 0), after > 30 ? -2 : after);
            T.due("40 from where he stands after " + after, x.caught(0, 0), after > 30 ? -2 : after);
        }
        WomenByTheRoofs none = new WomenByTheRoofs();
        T.due("40 nobody is there", none.caught(0, 0), -2);
        WomenByTheRoofs row = Tester.made(".", "m0:o");
        row.pieces(0);
        row.caught(0, 0);
        T.dueRow("40 it tells no ROW", row, 1, 0);
    }

    // ---- 41

    /** "-2: all do not do; NONE: others". */
    private static void watchersOfNone() {
        WomenByTheRoofs x = Tester.made("..#.h", "m0:o");
        T.asked("41 none is needed", x, () -> x.watch(0, 0, 3, 0), 0, 0);
        T.asked("41 none is needed for another level", x, () -> x.watch(0, 0, 4, 1), 0, 0);
        T.refused("41 all do not do", x, () -> x.watch(0, 0, 1, 0), -2);
        T.refused("41 it is there", x, () -> x.watch(0, 0, 0, 0), -2);
        T.asked("41 he stands on the aim", x, () -> x.watch(1, 0, 0, 0), 1, 1);
        for (int none : new int[] {-1, 2, 4, 5, 36, LEAST, MOST}) {
            T.refused("41 from others", x, () -> x.watch(none, 0, 0, 0), -1);
            T.refused("41 of another aim", x, () -> x.watch(0, 0, none, 0), -1);
        }
        for (int level : new int[] {-1, 1, 2, LEAST, MOST}) {
            T.refused("41 from another level", x, () -> x.watch(0, level, 0, 0), -1);
            T.refused("41 of another level's aim", x, () -> x.watch(0, 0, 0, level), -1);
        }
        WomenByTheRoofs e = Tester.made("..", "");
        T.refused("41 nobody is there", e, () -> e.watch(0, 0, 1, 0), -2);
        WomenByTheRoofs stair = Tester.made("s", "m0:o;w0:o");
        T.asked("41 she bars the change of level", stair, () -> stair.watch(0, 0, 0, 1), 1, 2);
        T.asked("41 he bars it downward", stair, () -> stair.watch(0, 1, 0, 0), 1, 1);
    }

    /** "the ROW: they (bits; of as few the least)"; "(On a CELL where one stands, of its level, it can't step.)" */
    private static void watchersOfAll() {
        WomenByTheRoofs x = Tester.made("......", "m1:o;m2:o;m3:o;m3:o;m1:o;m1:o;m1:o;m1:o");
        T.asked("41 of as few the least", x, () -> x.watch(0, 0, 5, 0), 1, 1);
        T.asked("41 from behind the first", x, () -> x.watch(1, 0, 5, 0), 1, 2);
        T.asked("41 from behind the second", x, () -> x.watch(2, 0, 5, 0), 1, 4);
        T.refused("41 from behind them all", x, () -> x.watch(4, 0, 5, 0), -2);
        WomenByTheRoofs last = Tester.made("...", "m0:o;m0:o;m0:o;m0:o;m0:o;m0:o;m0:o;m1:o");
        T.asked("41 the last alone", last, () -> last.watch(0, 0, 2, 0), 1, 128);
        WomenByTheRoofs four = Tester.made("..../..../..../....", "m0:o;m1:o;m4:o;m6:o;m9:o;m11:o;m14:o;m15:o");
        T.asked("41 on the aim", four, () -> four.watch(5, 0, 15, 0), 1, 128);
        T.asked("41 of those round it and round the aim the least", four, () -> four.watch(5, 0, 10, 0), 4, 0b00011110);
        T.asked("41 the same the other way", four, () -> four.watch(10, 0, 5, 0), 4, 0b00011110);
        WomenByTheRoofs levels = Tester.made("sss", "m1:o;w1:o");
        T.asked("41 both levels", levels, () -> levels.watch(0, 0, 2, 1), 2, 3);
        WomenByTheRoofs feast = Tester.made("sss", "m1:o;w1:o");
        feast.feast(1);
        T.refused("41 both are below", feast, () -> feast.watch(0, 0, 2, 1), -2);
        WomenByTheRoofs plank = Tester.made("h.h.h", "w2:o");
        plank.plank(0, 2);
        plank.plank(2, 4);
        T.asked("41 between two planks", plank, () -> plank.watch(0, 1, 4, 1), 1, 1);
    }
}
