/** The sentences of promises 42 to 45 that name an edge, each with tests of its own. */
public final class EdgesOfKeptTest {
    private static final Tester T = new Tester("EdgesOfKeptTest");
    private static final int LEAST = Integer.MIN_VALUE;
    private static final int MOST = Integer.MAX_VALUE;

    public static void main(String[] args) {
        keptUnderTwo();
        allThatIsKept();
        nothingKept();
        since();
        sinceRefused();
        counts();
        countsOfTheRow();
        rows();
        fiveHundredAndTwelve();
        T.finish();
    }

    // ---- 42

    /** "are kept under a number 0 .. 1: true. Refused: others." */
    private static void keptUnderTwo() {
        WomenByTheRoofs x = Tester.made("s", "m0:o");
        for (int none : new int[] {-1, 2, 3, 32, 33, LEAST, MOST}) {
            T.refused("42 others", x, () -> x.keep(none) ? 1 : 0, 0);
            T.refused("43 others", x, () -> x.again(none) ? 1 : 0, 0);
        }
        T.due("42 0", x.keep(0), true);
        x.minute();
        T.due("42 1", x.keep(1), true);
        x.minute();
        T.due("43 1", x.again(1), true);
        T.due("43 1, now", x.count(3), 1);
        T.due("43 0", x.again(0), true);
        T.due("43 0, now", x.count(3), 0);
        T.due("43 1 again", x.again(1), true);
        T.due("43 1 again, now", x.count(3), 1);
        x.minutes(5);
        T.due("42 0 anew", x.keep(0), true);
        x.minutes(5);
        x.again(0);
        T.due("42 the latest that was kept", x.count(3), 6);
        x.again(1);
        T.due("42 the other is as it was", x.count(3), 1);
        WomenByTheRoofs e = new WomenByTheRoofs();
        T.due("42 of nobody", e.keep(0), true);
        e.minutes(60);
        T.due("43 of nobody", e.again(0), true);
        T.due("43 of nobody, now", e.count(3), 0);
    }

    /** "NOW, where all are, places of ROUTES, THE NEWS, MEETINGS, PLANKS, FEAST". */
    private static void allThatIsKept() {
        WomenByTheRoofs x = Tester.made("s.h.h/s.s..", "m0:rdl;w0:drr;w2:lr;m7:o");
        x.tell(0);
        x.minutes(3);
        x.plank(2, 4);
        x.feast(1);
        x.minute();
        WomenByTheRoofs y = Tester.made("s.h.h/s.s..", "m0:rdl;w0:drr;w2:lr;m7:o");
        y.tell(0);
        y.minutes(3);
        y.plank(2, 4);
        y.feast(1);
        y.minute();
        y.keep(0);
        y.again(0);
        x.keep(1);
        x.take();
        x.minutes(20);
        x.tell(2);
        x.tell(3);
        x.sheet(2, 4, 1, 0);
        T.due("43 again", x.again(1), true);
        T.same("43 all is as it was kept", Tester.stateOf(x), Tester.stateOf(y));
        T.due("43 what can be undone is forgotten", x.undo(), -1);
        T.due("43 ahead it goes alike", x.minutes(9), y.minutes(9));
        T.same("43 ahead all is alike", Tester.stateOf(x), Tester.stateOf(y));
        Tester.rule(x, "0");
        x.fire(3);
        x.again(1);
        T.due("43 the rule is not kept", x.person(0, 7), 0);
        T.due("43 nor the fire", x.count(9), 3);
    }

    // ---- 43

    /** "Refused: nothing kept". */
    private static void nothingKept() {
        WomenByTheRoofs x = Tester.made("s", "m0:o");
        x.tell(0);
        T.refused("43 nothing under 0", x, () -> x.again(0) ? 1 : 0, 0);
        T.refused("43 nothing under 1", x, () -> x.again(1) ? 1 : 0, 0);
        x.keep(1);
        T.refused("43 nothing under 0 still", x, () -> x.again(0) ? 1 : 0, 0);
        T.due("43 something under 1", x.again(1), true);
    }

    /** "PEOPLE came, CELLS were built, a ROUTE was told since". */
    private static void since() {
        for (int which = 0; which < 5; which++) {
            WomenByTheRoofs x = Tester.made("s.", "m0:r");
            x.keep(0);
            x.keep(1);
            switch (which) {
                case 0: Tester.folk(x, "w0:o"); break;
                case 1: x.build(1, 3); break;
                case 2: x.build(1, 1); break;
                case 3: Tester.route(x, 0, "r"); break;
                default: Tester.town(x, "s.");
            }
            x.minute();
            T.refused("43 since, 0, case " + which, x, () -> x.again(0) ? 1 : 0, 0);
            T.refused("43 since, 1, case " + which, x, () -> x.again(1) ? 1 : 0, 0);
            T.due("43 kept since, case " + which, x.keep(1), true);
            x.minute();
            T.due("43 it is again, case " + which, x.again(1), true);
            T.due("43 now, case " + which, x.count(3), 1);
            T.refused("43 the other is not, case " + which, x, () -> x.again(0) ? 1 : 0, 0);
        }
    }

    private static void sinceRefused() {
        WomenByTheRoofs x = Tester.made("s.h.h", "m0:r");
        x.keep(0);
        Tester.folk(x, "w1:o");
        Tester.folk(x, "");
        x.build(0, 2);
        x.build(9, 2);
        Tester.route(x, 0, "");
        Tester.route(x, 1, "r");
        Tester.town(x, "");
        T.due("43 what was refused spoils nothing", x.again(0), true);
        Tester.rule(x, "m");
        x.fire(1);
        x.sheet(2, 1, 0, 0);
        x.plank(2, 4);
        x.take();
        x.tell(0);
        x.feast(1);
        x.minutes(4);
        x.undo();
        Tester.evening(x, "m3;f;m2");
        T.due("43 nor does all else", x.again(0), true);
        T.due("43 as it was", x.count(3) + x.count(4) + x.count(6) + x.count(7), 0);
    }

    // ---- 44

    /** "-100 for another what"; "9: THE FIRE (NONE)". */
    private static void counts() {
        WomenByTheRoofs x = new WomenByTheRoofs();
        int[] want = {1, 1, 0, 0, 0, 0, 0, 0, 0, -1, 0, 0, 0};
        for (int what = 0; what < 13; what++) {
            T.due("44 of a new one, count(" + what + ")", x.count(what), want[what]);
        }
        for (int what : new int[] {-1, -100, 13, 14, LEAST, MOST}) {
            T.refused("44 another what", x, () -> x.count(what), -100);
        }
        WomenByTheRoofs y = Tester.made("h.h.h./....../h.h.h./....../ssssss/ssssss",
                "w24:o;m24:o;w24:o;m24:o;w24:o;m24:o;w24:o;m24:o");
        int[] ones = {0, 2, 12, 14, 0, 2};
        int[] others = {2, 4, 14, 16, 12, 14};
        for (int i = 0; i < 6; i++) {
            y.plank(ones[i], others[i]);
        }
        for (int i = 0; i < 8; i++) {
            y.tell(i);
        }
        y.feast(1);
        y.fire(35);
        y.minutes(60);
        Tester.say(y, "s".repeat(80));
        int[] most = {36, 6, 8, 60, 6, 0x55, 0xff, 1, 16 * 60, 35, 12, 2, 80};
        for (int what = 0; what < 13; what++) {
            T.due("44 of a full one, count(" + what + ")", y.count(what), most[what]);
        }
    }

    private static void countsOfTheRow() {
        WomenByTheRoofs x = Tester.made("ssssss/#####s/ssssss", "m0:o;w0:o;m0:o;w0:o;m0:o;w0:o;m0:o;w0:o");
        x.path(0, 0, 0);
        T.due("44 none", x.count(11), 0);
        x.known();
        T.due("44 one", x.count(11), 1);
        x.minute();
        T.due("44 two", x.count(11), 2);
        x.errand(0, 0);
        T.due("44 three", x.count(11), 3);
        x.lairs(1);
        T.due("44 four", x.count(11), 4);
        x.ahead(1);
        T.due("44 eight", x.count(11), 8);
        x.path(0, 0, 14);
        T.due("44 ten", x.count(11), 10);
        x.path(0, 0, 12);
        T.due("44 ten of twelve", x.count(11), 10);
        x.wardrobe(0, 12);
        T.due("44 ten of twelve again", x.count(11), 10);
    }

    // ---- 45

    /** "NoSuchElementException: none such." */
    private static void rows() {
        WomenByTheRoofs x = Tester.made("ssssss/#####s/ssssss", "");
        int[] none = {-1, LEAST, MOST, 10, 11, 100};
        T.dueNone("45 nothing was told yet", () -> x.row(0));
        x.path(0, 0, 12);
        T.due("45 the first", x.row(0), 1);
        T.due("45 the tenth", x.row(9), 3);
        for (int i : none) {
            T.dueNone("45 none such of ten: " + i, () -> x.row(i));
        }
        x.pieces(0);
        T.due("45 the last of two", x.row(1), 0);
        for (int i = 2; i < 10; i++) {
            int of = i;
            T.dueNone("45 what an older one had is gone: " + i, () -> x.row(of));
        }
        x.path(0, 3, 3);
        T.dueNone("45 an empty one has none", () -> x.row(0));
        x.pieces(1);
        x.pieces(2);
        x.tell(0);
        x.take();
        Tester.town(x, "?");
        Tester.town(x, "s.");
        x.keep(0);
        x.again(0);
        x.sheet(2, 0, 0, 0);
        x.cell(0, 0);
        x.caught(0, 0);
        x.fire(0);
        x.met(0, 1);
        T.dueRow("45 as it was told last", x, 13, 0);
    }

    // ---- terms

    /** "An object is used for at most 512 calls". */
    private static void fiveHundredAndTwelve() {
        WomenByTheRoofs x = new WomenByTheRoofs();
        for (int i = 1; i < 512; i++) {
            x.minutes(60);
        }
        T.due("terms, the 512th call", x.count(3), 511 * 60);
        WomenByTheRoofs y = new WomenByTheRoofs();
        for (int i = 1; i < 512; i++) {
            y.sign(i);
        }
        T.due("terms, the 512th call of another", y.count(12), 80);
    }
}
