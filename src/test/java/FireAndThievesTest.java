/** Promises 34 to 41: fires, a wardrobe, thieves. */
public final class FireAndThievesTest {
    private static final Tester T = new Tester("FireAndThievesTest");

    public static void main(String[] args) {
        fire();
        fights();
        saved();
        wardrobe();
        flees();
        lairs();
        caught();
        watch();
        T.finish();
    }

    private static void fire() {
        WomenByTheRoofs x = Tester.made("s.#h", "");
        T.due("34 out", x.count(9), -1);
        T.due("34 it is out already", x.fire(-1), -1);
        T.due("34 begins", x.fire(2), -1);
        T.due("34 where", x.count(9), 2);
        T.due("34 no such cell", x.fire(4), -2);
        T.due("34 no such cell below 0", x.fire(-2), -2);
        T.due("34 as it was", x.count(9), 2);
        T.due("34 elsewhere", x.fire(3), 2);
        T.due("34 is put out", x.fire(-1), 3);
        T.due("34 out again", x.count(9), -1);
        T.due("34 is not undone", x.count(10), 0);
    }

    private static void fights() {
        WomenByTheRoofs x = Tester.made("s.s/hhh", "m1:o;w4:o;w5:o;m0:o");
        T.due("35 there is none", x.fights(3), -2);
        T.due("35 another n, none", x.fights(61), -1);
        x.fire(4);
        T.due("35 at once", x.fights(0), 0b0101);
        T.dueRow("35 at once", x, 1, 1);
        T.due("35 in one", x.fights(1), 0b1111);
        T.dueRow("35 in one", x, 2, 2);
        T.due("35 sixty", x.fights(60), 15);
        T.due("35 another n", x.fights(61), -1);
        T.due("35 another n below 0", x.fights(-1), -1);
        x.fire(0);
        T.due("35 in the corner", x.fights(0), 1);
        T.due("35 in one", x.fights(1), 0b1011);
        T.dueRow("35 in one", x, 2, 1);
        x.fire(5);
        T.due("35 a stair from below", x.fights(1), 0b0111);
        WomenByTheRoofs e = Tester.made("..#/hh.", "m0:o;w3:o");
        e.fire(2);
        T.due("35 she can't", e.fights(60), 1);
        T.dueRow("35 she can't", e, 1, 0);
        WomenByTheRoofs r = Tester.made("..h/.hh", "m0:o;w2:o");
        r.fire(3);
        T.due("35 not round the edge", r.fights(0), 1);
        WomenByTheRoofs f = Tester.made("s.h/..h", "w0:o");
        f.fire(4);
        T.due("35 above she can't", f.fights(60), 0);
        f.feast(1);
        T.due("35 on a feast she can", f.fights(1), 1);
        T.dueRow("35 on a feast she can", f, 0, 1);
    }

    private static void saved() {
        WomenByTheRoofs x = Tester.made("s.s/hhh", "m0:o;w4:o;w5:o;m2:o;w5:o");
        T.due("36 there is none", x.saved(), -2);
        x.fire(4);
        T.due("36 in one", x.saved(), 1);
        T.dueRow("36 in one, of each the first", x, 0, 2);
        x.fire(3);
        T.due("36 at once", x.saved(), 0);
        T.dueRow("36 at once", x, 0, 1);
        x.fire(2);
        T.due("36 in one again", x.saved(), 1);
        T.dueRow("36 in one again", x, 0, 2);
        WomenByTheRoofs n = Tester.made("..#/hh.", "m0:o;w3:o");
        n.fire(2);
        T.due("36 they can't", n.saved(), -2);
        WomenByTheRoofs m = Tester.made("..", "m0:o");
        m.fire(1);
        T.due("36 a man alone", m.saved(), -2);
        T.due("36 nobody", Tester.made("s", "").saved(), -2);
    }

    private static void wardrobe() {
        WomenByTheRoofs x = Tester.made("s.s/hhh", "");
        T.due("37 round", x.wardrobe(0, 2), 4);
        T.dueRow("37 round", x, 42, 11, 11, 40);
        T.due("37 back", x.wardrobe(2, 0), 4);
        T.dueRow("37 back", x, 42, 33, 33, 40);
        T.due("37 there", x.wardrobe(0, 0), 0);
        T.dueRow("37 there", x);
        T.due("37 no stair", x.wardrobe(0, 1), -1);
        T.due("37 no stair first", x.wardrobe(3, 0), -1);
        T.due("37 no such cell", x.wardrobe(0, 6), -1);
        T.due("37 no such cell below 0", x.wardrobe(-1, 0), -1);
        Tester.town(x, "hhh/s.s");
        T.due("37 by the upper row", x.wardrobe(3, 5), 4);
        T.dueRow("37 by the upper row", x, 40, 11, 11, 42);
        Tester.town(x, "s.s");
        x.plank(0, 2);
        T.due("37 no planks", x.wardrobe(0, 2), -2);
        Tester.town(x, "s#s");
        T.due("37 can't be", x.wardrobe(0, 2), -2);
        Tester.town(x, "s.s/h#h/hhh");
        T.due("37 too far apart", x.wardrobe(0, 2), -2);
        Tester.town(x, "ssssss/#####s/ssssss");
        T.due("37 long", x.wardrobe(0, 12), 12);
        T.dueRow("37 the first 10", x, 11, 11, 11, 11, 11, 22, 22, 33, 33, 33);
        Tester.town(x, "ss/ss");
        T.due("37 the least row", x.wardrobe(3, 0), 2);
        T.dueRow("37 the least row", x, 0, 33);
    }

    private static void flees() {
        WomenByTheRoofs x = Tester.made("..", "m0:o;m1:lr");
        T.due("38 one", x.flees(1, 0, 1), 1);
        T.dueRow("38 one", x, 2, 0, 0, 0);
        T.due("38 two", x.flees(1, 0, 2), 0);
        T.dueRow("38 two", x, 0, 0, 0, 0);
        T.due("38 who is there now does not catch it", x.flees(0, 0, 1), 1);
        T.due("38 not of that net", x.flees(0, 1, 1), -1);
        T.due("38 no such cell", x.flees(2, 0, 1), -1);
        T.due("38 no such cell below 0", x.flees(-1, 0, 1), -1);
        T.due("38 another level", x.flees(0, 2, 1), -1);
        T.due("38 none", x.flees(0, 0, 0), -1);
        T.due("38 31", x.flees(0, 0, 31), -1);
        T.due("38 nothing changes", x.count(3), 0);
        WomenByTheRoofs s = Tester.made("s", "m0:o");
        T.due("38 changes level", s.flees(0, 0, 1), 1);
        T.dueRow("38 changes level", s, 0, 0, 1, 0);
        T.due("38 thirty", s.flees(0, 0, 30), 1);
        WomenByTheRoofs w = Tester.made("s", "m0:o;w0:o");
        T.due("38 both", w.flees(0, 1, 1), 0);
        WomenByTheRoofs p = Tester.made("h.h/...", "");
        p.plank(0, 2);
        T.due("38 over a plank", p.flees(0, 1, 1), 1);
        T.dueRow("38 over a plank", p, 0, 0, 5, 0);
        WomenByTheRoofs swap = Tester.made("..", "m1:l");
        T.due("38 they pass one another", swap.flees(0, 0, 1), 1);
        T.dueRow("38 they pass one another", swap, 2, 0, 0, 0);
        WomenByTheRoofs far = Tester.made("######/######/######/..s###/######/######", "");
        T.due("38 beyond 17", far.flees(19, 0, 2), 1);
        T.dueRow("38 beyond 17", far, 0, 7, 0, 4);
    }

    private static void lairs() {
        WomenByTheRoofs x = Tester.made("..", "m0:o;m1:lr");
        T.due("39 one", x.lairs(1), 2);
        T.dueRow("39 one", x, 3, 0, 0, 0);
        T.due("39 two", x.lairs(2), 0);
        T.dueRow("39 two", x, 0, 0, 0, 0);
        T.due("39 none", x.lairs(0), -1);
        T.due("39 31", x.lairs(31), -1);
        T.due("39 nothing changes", x.count(3), 0);
        WomenByTheRoofs y = Tester.made(".#s/h##", "m0:o");
        T.due("39 both levels", y.lairs(30), 3);
        T.dueRow("39 both levels", y, 4, 0, 12, 0);
        WomenByTheRoofs w = Tester.made("hh", "w0:o;w1:lr");
        T.due("39 above", w.lairs(1), 2);
        T.dueRow("39 above", w, 0, 0, 3, 0);
        T.due("39 above, two", w.lairs(2), 0);
        WomenByTheRoofs one = Tester.made("s", "m0:o");
        T.due("39 of their levels", one.lairs(1), 2);
        WomenByTheRoofs full = Tester.made("..", "m0:o;m0:rl");
        T.due("39 caught in the first", full.lairs(2), 0);
        WomenByTheRoofs m = Tester.made("...", "m0:rrll");
        T.due("39 as flees() has it", m.lairs(1), 3);
        WomenByTheRoofs far = Tester.made("######/######/######/..s###/######/######", "m18:o");
        T.due("39 beyond 17", far.lairs(1), 4);
        T.dueRow("39 beyond 17", far, 0, 7, 0, 4);
    }

    private static void caught() {
        WomenByTheRoofs x = Tester.made("..", "m0:o;m1:lr");
        T.due("40 at the latest", x.caught(1, 0), 2);
        T.due("40 there too", x.caught(0, 0), 2);
        T.due("40 not of that net", x.caught(0, 1), -1);
        T.due("40 no such cell", x.caught(2, 0), -1);
        T.due("40 another level", x.caught(0, -1), -1);
        WomenByTheRoofs one = Tester.made(".", "m0:o");
        T.due("40 at once", one.caught(0, 0), 1);
        WomenByTheRoofs free = Tester.made("s", "m0:o");
        T.due("40 it need not be", free.caught(0, 0), -2);
        WomenByTheRoofs late = Tester.made("..", "m0:o;m0:r");
        Tester.rule(late, "m=29");
        T.due("40 in thirty", late.caught(1, 0), 30);
        Tester.rule(late, "m=30");
        T.due("40 not in thirty", late.caught(1, 0), -2);
        T.due("40 nothing changes", late.count(3), 0);
    }

    private static void watch() {
        WomenByTheRoofs x = Tester.made("...../.###./.....", "m2:o;m9:o;m12:o;m12:o;m1:o");
        T.due("41 two ways", x.watch(0, 0, 4, 0), 2);
        T.dueRow("41 two ways", x, 0b00011);
        T.due("41 one is enough beside it", x.watch(9, 0, 12, 0), 1);
        T.dueRow("41 it can't step on the aim", x, 0b00100);
        T.due("41 all do not do", x.watch(0, 0, 10, 0), -2);
        T.due("41 it is there", x.watch(0, 0, 0, 0), -2);
        T.due("41 who stands where it starts", x.watch(2, 0, 3, 0), -2);
        T.due("41 not of that net", x.watch(6, 0, 0, 0), -1);
        T.due("41 the aim is not", x.watch(0, 0, 0, 1), -1);
        T.due("41 no such cell", x.watch(15, 0, 0, 0), -1);
        T.due("41 no such aim", x.watch(0, 0, -1, 0), -1);
        T.due("41 another level", x.watch(0, 2, 0, 0), -1);
        T.due("41 another level of the aim", x.watch(0, 0, 0, -1), -1);
        WomenByTheRoofs s = Tester.made("hs.", "w1:o;m1:o;w0:o");
        T.due("41 on a stair", s.watch(2, 0, 0, 1), 1);
        T.dueRow("41 on a stair, the least", s, 1);
        T.due("41 only of its level", s.watch(2, 0, 1, 0), 1);
        T.dueRow("41 only of its level", s, 2);
        WomenByTheRoofs all = Tester.made(".../.#./...", "m1:o;m3:o");
        T.due("41 all", all.watch(0, 0, 8, 0), 2);
        T.dueRow("41 all", all, 3);
        WomenByTheRoofs n = Tester.made(".#.", "m0:o");
        T.due("41 none needed", n.watch(0, 0, 2, 0), 0);
        T.dueRow("41 none needed", n, 0);
    }
}
