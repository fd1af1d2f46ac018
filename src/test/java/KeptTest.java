/** Promises 42 to 45: what is kept, counts, the ROW. */
public final class KeptTest {
    private static final Tester T = new Tester("KeptTest");

    public static void main(String[] args) {
        keep();
        again();
        spoiled();
        count();
        row();
        T.finish();
    }

    private static void keep() {
        WomenByTheRoofs x = Tester.made("s.h.h", "m0:rl;w0:o");
        T.due("42 others", x.keep(2), false);
        T.due("42 others below 0", x.keep(-1), false);
        T.due("42 first", x.keep(0), true);
        T.due("42 the other is empty", x.again(1), false);
        T.due("42 second", x.keep(1), true);
        x.minute();
        T.due("42 anew", x.keep(0), true);
        x.minute();
        x.again(0);
        T.due("42 the latest", x.count(3), 1);
        x.again(1);
        T.due("42 the other", x.count(3), 0);
        x.tell(0);
        x.keep(0);
        T.due("42 forgets nothing", x.count(10), 1);
    }

    private static void again() {
        WomenByTheRoofs x = Tester.made("s.h.h", "m0:rl;w0:o");
        T.due("43 nothing kept", x.again(0), false);
        x.tell(0);
        x.plank(2, 4);
        x.feast(1);
        x.minute();
        x.keep(1);
        x.minutes(5);
        x.take();
        x.feast(0);
        x.tell(1);
        Tester.rule(x, "0");
        x.fire(1);
        T.due("43 as it was", x.again(1), true);
        T.due("43 now", x.count(3), 1);
        T.due("43 planks", x.count(4), 1);
        T.due("43 the plank leads over", x.path(1, 2, 4), 1);
        T.due("43 feast", x.count(7), 1);
        T.due("43 she is below", x.person(1, 2), 0);
        T.due("43 news", x.count(6), 1);
        T.due("43 meetings", x.count(8), 0);
        T.due("43 cell", x.person(0, 1), 1);
        T.due("43 place", x.person(0, 3), 1);
        T.due("43 nothing to undo", x.undo(), -1);
        T.due("43 the fire stays", x.count(9), 1);
        T.due("43 the rule too", x.person(0, 7), 0);
        T.due("43 again", x.again(1), true);
        T.due("43 others", x.again(2), false);
        T.due("43 others below 0", x.again(-1), false);
        x.tell(1);
        T.due("43 refused", x.again(0), false);
        T.due("43 refused forgets nothing", x.count(10), 1);
    }

    private static void spoiled() {
        WomenByTheRoofs x = Tester.made("s.", "m0:r");
        x.keep(0);
        x.keep(1);
        Tester.folk(x, "");
        Tester.folk(x, "m9:u");
        Tester.route(x, 0, "?");
        Tester.town(x, "?");
        x.build(0, 0);
        T.due("43 refused ones spoil nothing", x.again(0), true);
        Tester.folk(x, "m1:r");
        T.due("43 people came", x.again(0), false);
        T.due("43 for both", x.again(1), false);
        x.keep(0);
        T.due("43 kept anew", x.again(0), true);
        x.build(1, 3);
        T.due("43 cells were built", x.again(0), false);
        x.keep(0);
        Tester.route(x, 1, "l");
        T.due("43 a route was told", x.again(0), false);
        x.keep(0);
        Tester.town(x, "s.");
        T.due("43 a town was told", x.again(0), false);
    }

    private static void count() {
        WomenByTheRoofs x = Tester.made("s.h/.h.", "m0:o;w0:o;w2:o");
        x.fire(3);
        x.tell(2);
        x.plank(2, 0);
        x.feast(1);
        x.minutes(3);
        x.sign(1);
        int[] want = {6, 3, 3, 3, 1, 6, 4, 1, 3, 3, 4, 2, 4};
        for (int what = 0; what < want.length; what++) {
            T.due("44 count(" + what + ")", x.count(what), want[what]);
        }
        T.due("44 another what", x.count(13), -100);
        T.due("44 another what below 0", x.count(-1), -100);
        T.due("44 most", x.count(Integer.MAX_VALUE), -100);
    }

    private static void row() {
        WomenByTheRoofs x = Tester.made("....", "");
        T.dueNone("45 nothing yet", () -> x.row(0));
        x.path(0, 0, 3);
        T.due("45 three", x.count(11), 3);
        T.due("45 the first", x.row(0), 1);
        T.due("45 the last", x.row(2), 1);
        T.dueNone("45 none such", () -> x.row(3));
        T.dueNone("45 none such below 0", () -> x.row(-1));
        T.dueNone("45 most", () -> x.row(Integer.MAX_VALUE));
        x.cell(0, 0);
        x.count(0);
        x.caught(0, 0);
        x.path(0, 0, 9);
        x.tell(0);
        x.fire(2);
        x.undo();
        x.keep(0);
        T.due("45 is still there", x.count(11), 3);
        Tester.town(x, "..");
        T.due("45 behind a new town too", x.count(11), 3);
        x.pieces(0);
        T.dueRow("45 another one", x, 2, 0);
        T.dueNone("45 fewer", () -> x.row(2));
        x.ahead(3);
        T.dueNone("45 an empty one", () -> x.row(0));
    }
}
