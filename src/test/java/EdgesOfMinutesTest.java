/** The sentences of promises 14 to 24 that name an edge, each with tests of its own. */
public final class EdgesOfMinutesTest {
    private static final Tester T = new Tester("EdgesOfMinutesTest");
    private static final int LEAST = Integer.MIN_VALUE;
    private static final int MOST = Integer.MAX_VALUE;
    private static final String EIGHT = "m0:o;m0:o;m0:o;m0:o;w0:o;w0:o;w0:o;w0:o";

    public static void main(String[] args) {
        told();
        feastsBegin();
        feastsEnd();
        feastsAndNewcomers();
        newsAheadOfThree();
        newsByLevels();
        newsAtTheEdge();
        meetingsOfAll();
        minutesOfNone();
        sixtyMinutes();
        eveningsOfNothing();
        actsThatCannotBe();
        tillOneCannotBe();
        faultsOfAnEvening();
        lengthOfAnEvening();
        twelveAreKept();
        suchAsWereNotRefused();
        asAheadOfIt();
        whatForgets();
        metOnes();
        sixtyAhead();
        metFirst();
        knownByAll();
        gossips();
        T.finish();
    }

    // ---- 14

    /** "Refused: none such, it has it." */
    private static void told() {
        WomenByTheRoofs x = Tester.made("s", EIGHT);
        int[] none = {-1, 8, 31, 32, 39, LEAST, MOST};
        for (int who : none) {
            T.refused("14 none such", x, () -> x.tell(who), -1);
        }
        for (int who = 0; who < 8; who++) {
            int one = who;
            T.due("14 how many have it", x.tell(who), who + 1);
            T.refused("14 it has it", x, () -> x.tell(one), -1);
        }
        T.due("14 all", x.count(6), 255);
        T.due("14 eight to undo", x.count(10), 8);
        WomenByTheRoofs e = new WomenByTheRoofs();
        T.refused("14 nobody is there", e, () -> e.tell(0), -1);
        WomenByTheRoofs g = Tester.made("s", "m0:o;w0:o");
        g.tell(0);
        g.minute();
        T.refused("14 it has it from another", g, () -> g.tell(1), -1);
        g.undo();
        T.due("14 it has it no more", g.tell(1), 2);
    }

    // ---- 15

    /** "Refused: others, it is so"; "how many women are below then". */
    private static void feastsBegin() {
        WomenByTheRoofs x = Tester.made("s", EIGHT);
        for (int is : new int[] {-1, 2, LEAST, MOST}) {
            T.refused("15 others", x, () -> x.feast(is), -1);
        }
        T.refused("15 it is so: none", x, () -> x.feast(0), -1);
        T.due("15 all women are below", x.feast(1), 4);
        T.refused("15 it is so: one", x, () -> x.feast(1), -1);
        for (int is : new int[] {-1, 2, LEAST, MOST}) {
            T.refused("15 others on a feast", x, () -> x.feast(is), -1);
        }
        T.due("15 none is below then", x.feast(0), 0);
        T.refused("15 it is so again", x, () -> x.feast(0), -1);
        WomenByTheRoofs h = Tester.made("hs", "w0:r;m1:o");
        T.due("15 none is on a stair", h.feast(1), 0);
        T.due("15 she does not go", h.person(0, 7), 0);
        h.minutes(3);
        T.dueRow("15 nor step", h, 0, 0);
        T.due("15 her place stays", h.person(0, 3), 0);
        T.due("15 it ends with her there", h.feast(0), 0);
        h.minute();
        T.dueRow("15 she steps again", h, 1, 0);
    }

    /** "When it ends, women that are on stairs are above; is one below elsewhere, it does not end: refused." */
    private static void feastsEnd() {
        WomenByTheRoofs x = Tester.made("s.s", "w0:rrll;w2:llrr;m1:o");
        T.due("15 both are below", x.feast(1), 2);
        x.minute();
        T.refused("15 both are below elsewhere", x, () -> x.feast(0), -1);
        Tester.rule(x, "i=0");
        x.minute();
        T.refused("15 one is below elsewhere", x, () -> x.feast(0), -1);
        Tester.rule(x, "i=1");
        x.minute();
        T.due("15 both are on stairs", x.feast(0), 0);
        T.due("15 and above", x.person(0, 2) + x.person(1, 2), 2);
        T.due("15 each on the other's", x.person(0, 1) * 10 + x.person(1, 1), 20);
        WomenByTheRoofs b = Tester.made("s.", "w0:ro");
        b.feast(1);
        b.minute();
        T.refused("15 she is on a street", b, () -> b.feast(0), -1);
        T.due("15 a stair is built there", b.build(1, 3), 1);
        T.due("15 it ends then", b.feast(0), 0);
        T.due("15 she is above", b.cell(1, 2), 1);
    }

    private static void feastsAndNewcomers() {
        WomenByTheRoofs x = Tester.made("ss", "w0:r");
        x.feast(1);
        Tester.folk(x, "w0:r;m0:r");
        T.due("15 who comes on it is above", x.person(1, 2), 1);
        T.due("15 and does not go", x.person(1, 7), 0);
        T.due("15 a man that comes goes", x.person(2, 7), 1);
        x.minute();
        T.dueRow("15 who goes", x, 0b101, 0);
        T.due("15 it ends, one had not been below", x.feast(0), 0);
        T.due("15 it begins anew for both", x.feast(1), 2);
    }

    // ---- 16

    /** "by numbers, each that had it ahead of (3)": who gets it in a MINUTE gives it in the next one. */
    private static void newsAheadOfThree() {
        WomenByTheRoofs x = Tester.made("s./..", "m0:o;w0:o;m1:o;m2:o");
        x.tell(0);
        T.due("16 first", x.minute(), 1);
        T.dueRow("16 first: up the stair alone", x, 0, 0b0010);
        x.minute();
        T.dueRow("16 second: from her to both beside", x, 0, 0b1100);
        x.minute();
        T.dueRow("16 third: nobody more", x, 0, 0);
        WomenByTheRoofs n = Tester.made("s", "m0:o;w0:o");
        n.minute();
        T.dueRow("16 nobody has it", n, 0, 0);
        WomenByTheRoofs e = new WomenByTheRoofs();
        e.minute();
        T.dueRow("16 nobody is there", e, 0, 0);
    }

    /** "to all on its CELL, of its level, or on a stair of any; a woman above to all below on CELLS beside hers". */
    private static void newsByLevels() {
        Object[][] cases = {
            {"a man to a man on a street", ".", "m0:o;m0:o", 2},
            {"a woman to a woman on a house", "h", "w0:o;w0:o", 2},
            {"a man to a woman on a stair", "s", "m0:o;w0:o", 2},
            {"a woman to a man on a stair", "s", "w0:o;m0:o", 2}, {"a man to nobody beside", "..", "m0:o;m1:o", 0},
            {"a man to no woman beside", ".h", "m0:o;w1:o", 0},
            {"a woman to a man on the right", "h.", "w0:o;m1:o", 2},
            {"a woman to a man on the left", ".h", "w1:o;m0:o", 2},
            {"a woman to a man below on the map", "h/.", "w0:o;m1:o", 2},
            {"a woman to a man above on the map", "./h", "w1:o;m0:o", 2},
            {"a woman to a man on a stair beside", "hs", "w0:o;m1:o", 2},
            {"a woman to no woman beside", "hh", "w0:o;w1:o", 0},
            {"a woman to no woman on a stair beside", "hs", "w0:o;w1:o", 0}, {"not across", "h#/#.", "w0:o;m3:o", 0},
            {"not two on", "h#.", "w0:o;m2:o", 0}, {"from a stair too", "s.", "w0:o;m1:o", 2}};
        for (Object[] one : cases) {
            WomenByTheRoofs x = Tester.made((String) one[1], (String) one[2]);
            x.tell(0);
            x.minute();
            T.dueRow("16 " + one[0], x, 0, (Integer) one[3]);
        }
        WomenByTheRoofs f = Tester.made("ss", "w0:o;m1:o;m0:o");
        f.tell(0);
        f.feast(1);
        f.minute();
        T.dueRow("16 a woman below: on her cell alone", f, 0, 4);
        WomenByTheRoofs g = Tester.made("hs", "w1:o");
        g.feast(1);
        Tester.folk(g, "w0:o;w1:o");
        g.tell(1);
        g.minute();
        T.dueRow("16 to a woman below beside, not to her above beside", g, 0, 1);
        WomenByTheRoofs p = Tester.made("h.h", "w0:o;w2:o");
        p.plank(0, 2);
        p.tell(0);
        p.minute();
        T.dueRow("16 not over a plank", p, 0, 0);
    }

    private static void newsAtTheEdge() {
        WomenByTheRoofs x = Tester.made("..h/h../..h", "w2:o;w3:o;m1:o;m5:o;m4:o;m0:o;m6:o");
        x.tell(0);
        x.minute();
        T.dueRow("16 a row's end is not beside the next row", x, 0, 0b0001100);
        WomenByTheRoofs y = Tester.made("..h/h../..h", "w3:o;m1:o;m5:o;m4:o;m0:o;m6:o");
        y.tell(0);
        y.minute();
        T.dueRow("16 a row's start is not beside the last row", y, 0, 0b111000);
    }

    /** "of each such pair (a man by numbers, then a woman) one more". */
    private static void meetingsOfAll() {
        WomenByTheRoofs x = Tester.made("s", EIGHT);
        T.due("16 sixteen pairs", x.minute(), 16);
        T.due("16 of all", x.count(8), 16);
        T.due("16 of one", x.person(0, 6) * 10 + x.person(7, 6), 44);
        x.feast(1);
        T.due("16 whatever level", x.minute(), 16);
        WomenByTheRoofs b = Tester.made("s", "m0:o");
        b.feast(1);
        Tester.folk(b, "w0:o");
        T.due("16 she above on a feast", b.minute(), 1);
        WomenByTheRoofs s = Tester.made("s.", "w0:r;m1:o");
        s.feast(1);
        T.due("16 on a street they do not meet", s.minute(), 0);
        T.due("16 nobody met", s.met(0, 1), 0);
        WomenByTheRoofs m = Tester.made("s", "m0:o;m0:o");
        T.due("16 two men do not meet", m.minute(), 0);
        WomenByTheRoofs w = Tester.made("s", "w0:o;w0:o");
        T.due("16 two women do not meet", w.minute(), 0);
        WomenByTheRoofs p = Tester.made("s.s", "m0:rr;w2:o");
        T.due("16 not yet", p.minute(), 0);
        T.due("16 behind the steps", p.minute(), 1);
    }

    // ---- 17

    /** "n MINUTES (0 .. 60)"; "NONE: another n". */
    private static void minutesOfNone() {
        WomenByTheRoofs x = Tester.made("s", "m0:o;w0:o");
        x.tell(0);
        T.due("17 none", x.minutes(0), 0);
        T.dueRow("17 none", x, 0, 1);
        T.due("17 none goes by", x.count(3), 0);
        T.due("17 none can be undone", x.count(10), 1);
        for (int n : new int[] {-1, 61, LEAST, MOST}) {
            T.refused("17 another n", x, () -> x.minutes(n), -1);
        }
        T.due("17 one", x.minutes(1), 1);
        T.dueRow("17 one", x, 0, 3);
        T.due("17 one can be undone", x.count(10), 2);
    }

    private static void sixtyMinutes() {
        WomenByTheRoofs x = Tester.made("s.s", "m0:rrll;w2:o;m1:lr");
        T.due("17 sixty", x.minutes(60), 15);
        T.dueRow("17 sixty", x, 120, 0);
        T.due("17 sixty went by", x.count(3), 60);
        T.due("17 as one", x.undo(), 0);
        T.due("17 undone as one", x.count(3), 0);
        WomenByTheRoofs far = Tester.made("s", EIGHT);
        StringBuilder text = new StringBuilder("m60");
        for (int i = 1; i < 15; i++) {
            text.append(";m60");
        }
        for (int i = 1; i <= 80; i++) {
            Tester.evening(far, text.toString());
            T.due("17 now", far.count(3), 900 * i);
        }
        T.due("17 meetings of so many", far.count(8), 16 * 72000);
        T.due("17 of two of them", far.met(0, 7), 72000);
        Tester.rule(far, "m=72*250*4");
        T.due("17 the rule sees it", far.person(0, 7), 1);
    }

    // ---- 18

    /** "AN EVENING (an empty one: nothing)". */
    private static void eveningsOfNothing() {
        WomenByTheRoofs x = Tester.made("s", "m0:o;w0:o");
        x.pieces(0);
        x.tell(0);
        T.due("18 an empty one", Tester.evening(x, ""), 0);
        T.dueRow("18 an empty one", x, 0, 0);
        T.due("18 nothing went by", x.count(3), 0);
        T.due("18 it can't be undone", x.count(10), 1);
        T.due("18 m0", Tester.evening(x, "m0"), 1);
        T.dueRow("18 m0", x, 0, 0);
        T.due("18 m00", Tester.evening(x, "m00"), 1);
        T.due("18 no minute", x.count(3), 0);
    }

    /** "(above 60: can't be)", "(letters a .. h, whether there or not)". */
    private static void actsThatCannotBe() {
        WomenByTheRoofs x = Tester.made("s.h.h", "m0:ro;w0:o");
        x.plank(2, 4);
        x.tell(0);
        String[] cannot = {"m61", "m99", "na", "nc", "nh", "p0-1", "p2-4", "p4-2", "p5-3", "p99-99", "p0-0", "p02-36"};
        for (String text : cannot) {
            String before = Tester.stateOf(x);
            T.due("18 can't be " + text, Tester.evening(x, text), 0);
            T.dueRow("18 can't be " + text, x, 1, 0);
            T.same("18 can't be " + text + ", nothing changes", Tester.stateOf(x), before);
        }
        String[] can = {"m60", "m1", "nb", "p0-2", "x", "f", "f"};
        for (String text : can) {
            T.due("18 can be " + text, Tester.evening(x, text), 1);
            T.due("18 can be " + text, x.row(0), 0);
        }
        Tester.evening(x, "x;x");
        T.due("18 none to take", Tester.evening(x, "x"), 0);
        T.dueRow("18 none to take", x, 1, 0);
        WomenByTheRoofs six = Tester.made("h.h.h/...../h.h.h/...../h.h.h", "w0:o;w0:o;w0:o;w0:o;w0:o;w0:o;w0:o;w0:o");
        T.due("18 six planks, not a seventh", Tester.evening(six, "p0-2;p2-4;p0-10;p2-12;p4-14;p10-12;p12-14"), 6);
        T.dueRow("18 a seventh can't be", six, 1, 0);
        T.due("18 the letters a and h", Tester.evening(six, "na;nh"), 2);
        T.due("18 who has it", six.count(6), 0x81);
        WomenByTheRoofs f = Tester.made("s.", "w0:ro");
        T.due("18 a feast that can't end", Tester.evening(f, "f;m1;f"), 2);
        T.dueRow("18 a feast that can't end", f, 1, 0);
    }

    /** "they are done one by one, till one can't be: how many were done". */
    private static void tillOneCannotBe() {
        WomenByTheRoofs x = Tester.made("s", "m0:o;w0:o");
        T.due("18 the first can't be", Tester.evening(x, "x;m1;m1"), 0);
        T.dueRow("18 the first can't be", x, 1, 0);
        T.due("18 nothing behind it is done", x.count(3), 0);
        T.due("18 nothing to undo", x.count(10), 0);
        T.due("18 the second can't be", Tester.evening(x, "m1;x;m1"), 1);
        T.dueRow("18 the second can't be", x, 1, 1);
        T.due("18 one minute", x.count(3), 1);
        T.due("18 one to undo", x.count(10), 1);
        T.due("18 the last can't be", Tester.evening(x, "m2;m3;m61"), 2);
        T.dueRow("18 the last can't be", x, 1, 5);
        T.due("18 undone as one", x.undo(), 1);
        T.due("18 one minute again", x.count(3), 1);
        T.due("18 all can be", Tester.evening(x, "m2;na;m3"), 3);
        T.dueRow("18 all can be", x, 0, 5);
        T.due("18 the news climbs in it", x.count(6), 3);
        T.due("18 thirty acts", Tester.evening(x, "f" + ";f".repeat(29)), 30);
        T.due("18 thirty of which the last can't be", Tester.evening(x, "f;".repeat(29) + "x"), 29);
        T.dueRow("18 thirty of which the last can't be", x, 1, 0);
        T.due("18 it is on", x.count(7), 1);
    }

    private static void faultsOfAnEvening() {
        WomenByTheRoofs x = Tester.made("h.h", "w0:o");
        x.minute();
        Object[][] told = {
            {"a sign that is none", "q", 0}, {"a ; alone", ";", 0}, {"its end behind ;", "x;", 2},
            {"a ; behind ;", "x;;x", 2}, {"no ; between", "xf", 1}, {"m without a number", "m", 1},
            {"m and ;", "m;x", 1}, {"a third digit", "m100", 3}, {"n without a letter", "n", 1}, {"n and i", "ni", 1},
            {"n and a large letter", "nA", 1}, {"n and `", "n`", 1}, {"two letters", "nab", 2},
            {"p without a number", "p", 1}, {"p and -", "p-1", 1}, {"p and one number", "p0", 2},
            {"p and a third digit", "p000-2", 3}, {"p without its second", "p0-", 3}, {"p and ;", "p0;2", 2},
            {"p and two -", "p0--2", 3}, {"p and a third digit of its second", "p0-002", 5},
            {"x and a number", "x1", 1}, {"f and a number", "f1", 1}, {"a blank", "m1; x", 3},
            {"a fault behind acts", "m1;nh;p0-2;x;f;?", 15}};
        for (Object[] one : told) {
            T.refusedText("18 " + one[0], x, (String) one[1], x::evening, -1 - (Integer) one[2]);
        }
    }

    /** "-1 - p: the sign at p can't stand there (as folk(); 60 signs); nothing is done then". */
    private static void lengthOfAnEvening() {
        WomenByTheRoofs x = Tester.made("s", "m0:o");
        String nineteen = "m1;".repeat(19);
        T.refusedText("18 61, a ;", x, nineteen + "m11" + ";", x::evening, -61);
        T.refusedText("18 61, a digit", x, nineteen + "m11" + "1", x::evening, -61);
        T.refusedText("18 61, one that is none", x, nineteen + "m11" + "?", x::evening, -61);
        T.refusedText("18 61 behind ;", x, nineteen + "m1;" + "f", x::evening, -61);
        T.refusedText("18 61 behind m", x, nineteen + "f;m" + "1", x::evening, -61);
        T.refusedText("18 61 behind n", x, nineteen + "f;n" + "a", x::evening, -61);
        T.refusedText("18 61 behind p", x, nineteen + "f;p" + "1-2", x::evening, -61);
        T.refusedText("18 61 behind p and a number", x, nineteen + "p00" + "-2", x::evening, -61);
        T.refusedText("18 61 behind p, a number, -", x, nineteen + "p0-" + "2", x::evening, -61);
        T.refusedText("18 80", x, nineteen + "m11" + "?".repeat(20), x::evening, -61);
        T.refusedText("18 60 that end too early", x, nineteen + "m1;", x::evening, -61);
        T.refusedText("18 61 with a fault at 59", x, nineteen + "m1?" + "1", x::evening, -60);
        T.refusedText("18 60 with a fault at 59", x, nineteen + "m1?", x::evening, -60);
        T.due("18 60", Tester.evening(x, nineteen + "m11"), 20);
        T.due("18 all of them", x.count(3), 30);
        T.due("18 59", Tester.evening(x, nineteen + "m1"), 20);
        String eighteen = "m1;".repeat(18);
        T.due("18 60 with a letter at the end", Tester.evening(x, eighteen + "m11;na"), 20);
        T.due("18 it was told", x.count(6), 1);
        WomenByTheRoofs h = Tester.made("h.h", "");
        T.due("18 60 with a plank at the end", Tester.evening(h, eighteen + "p00-02"), 19);
        T.due("18 it was laid", h.count(4), 1);
        T.due("18 60 with x at the end", Tester.evening(h, eighteen + "f;m1;x"), 21);
    }

    // ---- 19

    /** "of 12 that are kept, the latest ones"; "Refused: none". */
    private static void twelveAreKept() {
        WomenByTheRoofs x = Tester.made("s", "m0:o");
        T.refused("19 none", x, x::undo, -1);
        for (int i = 1; i <= 30; i++) {
            x.minute();
            T.due("19 what can be undone", x.count(10), Math.min(i, 12));
        }
        for (int left = 11; left >= 0; left--) {
            T.due("19 left", x.undo(), left);
            T.due("19 now", x.count(3), 18 + left);
        }
        T.refused("19 none is left", x, x::undo, -1);
        x.minute();
        T.due("19 one more can be", x.undo(), 0);
        T.due("19 now is as ahead of it", x.count(3), 18);
        for (int i = 0; i < 13; i++) {
            x.minutes(2);
        }
        x.undo();
        x.minutes(3);
        T.due("19 twelve again", x.count(10), 12);
        for (int left = 11; left >= 0; left--) {
            x.undo();
        }
        T.due("19 the oldest is gone", x.count(3), 20);
    }

    /** "such as were not refused; minutes() of 1 and more, evening() of which one ACT was done, as one". */
    private static void suchAsWereNotRefused() {
        WomenByTheRoofs x = Tester.made("s.h.h", "m0:o;w0:o");
        int can = 0;
        x.tell(5);
        x.feast(0);
        x.minutes(0);
        x.minutes(61);
        x.plank(0, 1);
        x.plank(2, 99);
        x.take();
        Tester.evening(x, "");
        Tester.evening(x, "x");
        Tester.evening(x, "m61;m1");
        Tester.evening(x, "m1;");
        T.due("19 none of these", x.count(10), can);
        x.tell(0);
        T.due("19 tell()", x.count(10), ++can);
        x.feast(1);
        T.due("19 feast(1)", x.count(10), ++can);
        x.feast(0);
        T.due("19 feast(0)", x.count(10), ++can);
        x.minute();
        T.due("19 minute()", x.count(10), ++can);
        x.minutes(1);
        T.due("19 minutes(1)", x.count(10), ++can);
        x.plank(2, 4);
        T.due("19 plank()", x.count(10), ++can);
        x.plank(2, 4);
        x.tell(0);
        T.due("19 not twice", x.count(10), can);
        x.take();
        T.due("19 take()", x.count(10), ++can);
        Tester.evening(x, "m1;x");
        T.due("19 evening() of which one could not be", x.count(10), ++can);
        Tester.evening(x, "m1;m1;m1;f");
        T.due("19 evening() of four, as one", x.count(10), ++can);
        Tester.evening(x, "m0");
        T.due("19 evening() of one that did little", x.count(10), ++can);
    }

    /** "NOW, where all are, places of ROUTES, THE NEWS, MEETINGS, PLANKS, FEAST are as ahead of it". */
    private static void asAheadOfIt() {
        WomenByTheRoofs x = Tester.made("s.h.h/s.s..", "m0:rdl;w0:drr;w2:lr;m7:o");
        String[] was = new String[9];
        was[0] = Tester.stateOf(x);
        x.tell(0);
        was[1] = Tester.stateOf(x);
        x.minute();
        was[2] = Tester.stateOf(x);
        x.plank(2, 4);
        was[3] = Tester.stateOf(x);
        x.feast(1);
        was[4] = Tester.stateOf(x);
        x.minutes(7);
        was[5] = Tester.stateOf(x);
        x.take();
        was[6] = Tester.stateOf(x);
        Tester.evening(x, "p4-2;m3;nd;x;x");
        was[7] = Tester.stateOf(x);
        x.minute();
        for (int i = 7; i >= 0; i--) {
            T.due("19 undone to " + i, x.undo(), i);
            T.same("19 as ahead of call " + i, Tester.stateOf(x), was[i]);
        }
        WomenByTheRoofs full = Tester.made("ss", "w0:rl;m0:rl;".repeat(4).substring(0, 47));
        full.minute();
        full.feast(1);
        String then = Tester.stateOf(full);
        full.minute();
        full.feast(0);
        full.tell(7);
        full.minutes(2);
        full.undo();
        full.undo();
        full.undo();
        full.undo();
        T.same("19 eight as ahead of it", Tester.stateOf(full), then);
        WomenByTheRoofs p = Tester.made("h.h", "w0:r");
        p.plank(0, 2);
        p.take();
        p.undo();
        p.minute();
        T.dueRow("19 she steps over the plank that is back", p, 1, 0);
        p.undo();
        p.undo();
        p.minute();
        T.dueRow("19 she steps not over the plank that is gone", p, 0, 0);
    }

    /** "town(), build(), folk(), route() and again() forget them ..; an empty folk() does not". */
    private static void whatForgets() {
        for (int which = 0; which < 12; which++) {
            WomenByTheRoofs x = Tester.made("s.", "m0:r");
            x.keep(0);
            x.tell(0);
            x.minute();
            switch (which) {
                case 0: Tester.town(x, "s."); break;
                case 1: x.build(0, 3); break;
                case 2: Tester.folk(x, "m0:o"); break;
                case 3: Tester.route(x, 0, "o"); break;
                case 4: x.again(0); break;
                case 5: Tester.town(x, "s./"); break;
                case 6: x.build(1, 2); break;
                case 7: Tester.folk(x, "w1:o"); break;
                case 8: Tester.route(x, 0, "?"); break;
                case 9: x.again(1); break;
                case 10: Tester.folk(x, ""); break;
                default: Tester.rule(x, "0"); x.fire(0); x.keep(1); x.sheet(2, 1, 0, 0);
            }
            T.due("19 what case " + which + " forgets", x.undo(), which < 5 ? -1 : 1);
        }
    }

    // ---- 20

    /** "NONE: none such, like ones. (Two men, or two women, have none.)" */
    private static void metOnes() {
        WomenByTheRoofs x = Tester.made("s", EIGHT);
        x.minutes(2);
        for (int one = -1; one <= 8; one++) {
            for (int other = -1; other <= 8; other++) {
                boolean such = one >= 0 && one < 8 && other >= 0 && other < 8 && one != other;
                int want = !such ? -1 : one < 4 == other < 4 ? 0 : 2;
                T.due("20 met(" + one + ", " + other + ")", x.met(one, other), want);
            }
        }
        T.due("20 the least and the most", x.met(LEAST, MOST), -1);
        T.due("20 like ones of none such", x.met(MOST, MOST), -1);
        T.due("20 nobody is there", new WomenByTheRoofs().met(0, 1), -1);
    }

    // ---- 21

    /** "the next n MINUTES (0 .. 60)"; "NONE: another n". */
    private static void sixtyAhead() {
        WomenByTheRoofs x = Tester.made("s.s", "m0:rrll;w2:o;m1:lr");
        T.asked("21 none", x, () -> x.ahead(0), 0, 0, 2, 1);
        T.asked("21 one", x, () -> x.ahead(1), 0, 1, 2, 0);
        T.asked("21 two", x, () -> x.ahead(2), 1, 2, 2, 1);
        T.asked("21 sixty", x, () -> x.ahead(60), 15, 0, 2, 1);
        for (int n : new int[] {-1, 61, LEAST, MOST}) {
            T.refused("21 another n", x, () -> x.ahead(n), -1);
        }
        x.minutes(60);
        T.asked("21 sixty more", x, () -> x.ahead(60), 15, 0, 2, 1);
        WomenByTheRoofs all = Tester.made("s", EIGHT);
        T.asked("21 eight", all, () -> all.ahead(60), 960, 0, 0, 0, 0, 0, 0, 0, 0);
        WomenByTheRoofs e = new WomenByTheRoofs();
        T.asked("21 nobody", e, () -> e.ahead(60), 0);
    }

    // ---- 22

    /** "After how many MINUTES (1 .. 60) two of PEOPLE meet first; -2: not in these; NONE: others, like ones". */
    private static void metFirst() {
        WomenByTheRoofs x = Tester.made("s", EIGHT);
        for (int one = -1; one <= 8; one++) {
            for (int other = -1; other <= 8; other++) {
                boolean such = one >= 0 && one < 8 && other >= 0 && other < 8 && one != other;
                int want = !such ? -1 : one < 4 == other < 4 ? -2 : 1;
                T.due("22 meet(" + one + ", " + other + ")", x.meet(one, other), want);
            }
        }
        WomenByTheRoofs y = Tester.made("s.", "m1:l;w0:o");
        Tester.rule(y, "m=0");
        T.asked("22 in one", y, () -> y.meet(1, 0), 1, 0);
        Tester.rule(y, "m=59");
        T.asked("22 in sixty", y, () -> y.meet(0, 1), 60, 0);
        Tester.rule(y, "m=60");
        T.refused("22 in 61: not in these", y, () -> y.meet(0, 1), -2);
        y.minute();
        T.asked("22 in sixty from the next one on", y, () -> y.meet(0, 1), 60, 0);
        WomenByTheRoofs z = Tester.made("s.", "m0:r;w0:o");
        T.refused("22 where they are now does not count", z, () -> z.meet(0, 1), -2);
        WomenByTheRoofs f = Tester.made("s.", "w0:r;m1:o");
        f.feast(1);
        T.refused("22 a street does not count", f, () -> f.meet(1, 0), -2);
    }

    // ---- 23

    /** "After how many MINUTES (0 .. 60) all have THE NEWS"; "-2: not in these". */
    private static void knownByAll() {
        WomenByTheRoofs e = new WomenByTheRoofs();
        T.asked("23 nobody is there: all have it", e, e::known, 0, 0);
        WomenByTheRoofs x = Tester.made("s", EIGHT);
        T.asked("23 nobody has it", x, x::known, -2, 0);
        x.tell(7);
        T.asked("23 in one", x, x::known, 1, 255);
        x.minute();
        T.asked("23 in none", x, x::known, 0, 255);
        WomenByTheRoofs y = Tester.made("s.", "m1:l;w0:o");
        Tester.folk(y, "m1:o");
        y.tell(0);
        Tester.rule(y, "m=59");
        T.asked("23 in sixty", y, y::known, 60, 7);
        WomenByTheRoofs l = Tester.made("s..", "m2:l;w0:o");
        l.tell(1);
        Tester.rule(l, "m=59");
        T.asked("23 in sixty, at the last", l, l::known, 60, 3);
        Tester.rule(l, "m=60");
        T.asked("23 in 61: not in these, who has it in the end", l, l::known, -2, 2);
        WomenByTheRoofs one = Tester.made("s", "m0:o");
        T.asked("23 one without", one, one::known, -2, 0);
        one.tell(0);
        T.asked("23 one with", one, one::known, 0, 1);
    }

    // ---- 24

    /** "(nobody, if it is as good; of equal ones the first): it, or NONE"; "-2: another n". */
    private static void gossips() {
        WomenByTheRoofs e = new WomenByTheRoofs();
        T.asked("24 nobody is there", e, () -> e.gossip(0), -1, 0);
        WomenByTheRoofs x = Tester.made("s.h/s..", "m1:o;w2:o;m4:o;w0:o");
        for (int n : new int[] {-1, 61, LEAST, MOST}) {
            T.refused("24 another n", x, () -> x.gossip(n), -2);
        }
        T.asked("24 in none: the first of equal ones", x, () -> x.gossip(0), 0, 1);
        T.asked("24 in one: she drops it", x, () -> x.gossip(1), 1, 2);
        T.asked("24 in sixty", x, () -> x.gossip(60), 1, 2);
        x.tell(1);
        T.asked("24 in none she has it: the first other one", x, () -> x.gossip(0), 0, 2);
        T.asked("24 in one the first has it anyway", x, () -> x.gossip(1), 2, 3);
        x.tell(2);
        x.tell(3);
        T.asked("24 as good with nobody", x, () -> x.gossip(1), -1, 4);
        T.asked("24 in none one is missing", x, () -> x.gossip(0), 0, 4);
        x.tell(0);
        T.asked("24 all have it", x, () -> x.gossip(60), -1, 4);
        WomenByTheRoofs k = Tester.made("s.", "m1:l;w0:o");
        k.tell(1);
        Tester.rule(k, "1-k");
        T.asked("24 told, he would not go to her", k, () -> k.gossip(0), 0, 2);
        T.asked("24 he comes by himself", k, () -> k.gossip(1), -1, 2);
        WomenByTheRoofs t = Tester.made("..", "m0:r;m1:o");
        Tester.rule(t, "m=59");
        T.asked("24 in sixty the first reaches him", t, () -> t.gossip(60), 0, 2);
        T.asked("24 in 59 he does not", t, () -> t.gossip(59), 0, 1);
    }
}
