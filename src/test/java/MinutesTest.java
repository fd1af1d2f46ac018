/** Promises 14 to 24: minutes gone through, undone, and to come. */
public final class MinutesTest {
    private static final Tester T = new Tester("MinutesTest");

    public static void main(String[] args) {
        tell();
        feast();
        minute();
        newsOfAMinute();
        ruleOfAMinute();
        minutes();
        evening();
        eveningTexts();
        undo();
        met();
        ahead();
        meet();
        known();
        gossip();
        T.finish();
    }

    private static void tell() {
        WomenByTheRoofs x = Tester.made("s", "m0:o;w0:o;m0:o");
        T.due("14 none such", x.tell(3), -1);
        T.due("14 none such below 0", x.tell(-1), -1);
        T.due("14 far off", x.tell(35), -1);
        T.due("14 first", x.tell(2), 1);
        T.due("14 it has it", x.tell(2), -1);
        T.due("14 second", x.tell(0), 2);
        T.due("14 who", x.count(6), 5);
        T.due("14 can be undone", x.count(10), 2);
        T.due("14 no minute goes by", x.count(3), 0);
        x.undo();
        T.due("14 undone", x.count(6), 4);
    }

    private static void feast() {
        WomenByTheRoofs x = Tester.made("s.sh", "w0:r;w2:r;w3:l;m0:o");
        T.due("15 ends not", x.feast(0), -1);
        T.due("15 others", x.feast(2), -1);
        T.due("15 others below 0", x.feast(-1), -1);
        T.due("15 begins", x.feast(1), 2);
        T.due("15 is so", x.feast(1), -1);
        T.due("15 who is on a stair is below", x.person(1, 2), 0);
        T.due("15 who is not, is above", x.person(2, 2), 1);
        T.due("15 one of these goes", x.person(0, 7), 1);
        T.due("15 that one does not", x.person(2, 7), 0);
        x.minute();
        T.dueRow("15 by streets", x, 1, 0);
        T.due("15 on a street", x.person(0, 1), 1);
        T.due("15 cannot step to a house", x.person(1, 1), 2);
        T.due("15 did not go", x.person(2, 1), 3);
        T.due("15 her place stays", x.person(2, 3), 0);
        T.due("15 does not end", x.feast(0), -1);
        T.due("15 goes on", x.count(7), 1);
        x.minute();
        T.due("15 ends", x.feast(0), 0);
        T.due("15 above again", x.person(0, 2), 1);
        T.due("15 on a stair", x.person(0, 1), 2);
        T.due("15 is over", x.count(7), 0);
        T.due("15 can be undone", x.count(10), 4);
        x.undo();
        T.due("15 on again", x.count(7), 1);
        T.due("15 below again", x.person(0, 2), 0);
        WomenByTheRoofs y = new WomenByTheRoofs();
        T.due("15 nobody below", y.feast(1), 0);
        T.due("15 nobody above", y.feast(0), 0);
        WomenByTheRoofs z = Tester.made("sh", "w0:r");
        z.feast(1);
        Tester.folk(z, "w0:r;w1:l");
        T.due("15 came on it, on a stair", z.person(1, 2), 1);
        T.due("15 ends with her there", z.feast(0), 0);
        T.due("15 all above", z.cell(0, 2), 3);
    }

    private static void minute() {
        WomenByTheRoofs x = Tester.made("s.s/h#s/hhh", "m0:rrd;w3:ddrru;w8:u;m0:u;m2:o");
        T.due("16 nobody met", x.minute(), 0);
        T.dueRow("16 stepped", x, 0b00111, 0);
        T.due("16 could not, its place is the next one", x.person(1, 3), 1);
        T.due("16 a route of one", x.person(3, 3), 0);
        T.due("16 meets at 2 and 5", x.minute(), 2);
        T.dueRow("16 second", x, 0b00101, 0);
        T.due("16 0 met 2 on 2", x.met(0, 2), 1);
        T.due("16 4 met 2 on 2", x.met(4, 2), 1);
        T.due("16 now", x.count(3), 2);
        T.due("16 0 steps down, 1 steps right", x.minute(), 1);
        T.dueRow("16 third", x, 0b00011, 0);
        T.due("16 place is the first again", x.person(0, 3), 0);
        T.due("16 can be undone", x.count(10), 3);
        WomenByTheRoofs y = Tester.made("s", "m0:o;w0:o;m0:o;w0:o");
        T.due("16 each pair", y.minute(), 4);
        T.due("16 all", y.count(8), 4);
        y.feast(1);
        T.due("16 whatever level", y.minute(), 4);
        WomenByTheRoofs first = Tester.made("s", "w0:o;m0:o");
        T.due("16 a woman of number 0", first.minute(), 1);
        T.due("16 they met", first.met(1, 0), 1);
        WomenByTheRoofs z = Tester.made("h.h", "w0:rl;m1:r");
        z.plank(0, 2);
        T.due("16 over a plank", z.minute(), 0);
        T.dueRow("16 over a plank", z, 1, 0);
        T.due("16 on the other end", z.person(0, 1), 2);
        z.minute();
        T.due("16 and back", z.person(0, 1), 0);
        WomenByTheRoofs e = new WomenByTheRoofs();
        T.due("16 nobody there", e.minute(), 0);
        T.dueRow("16 nobody there", e, 0, 0);
        T.due("16 now is 1", e.count(3), 1);
    }

    private static void newsOfAMinute() {
        WomenByTheRoofs x = Tester.made("..../.hh./..s.", "w5:o;m1:o;m4:o;m9:o;m10:o");
        x.tell(0);
        x.minute();
        T.dueRow("16 falls beside: above, left, below; not across", x, 0, 0b01110);
        WomenByTheRoofs r = Tester.made("h.", "w0:o;m1:o");
        r.tell(0);
        r.minute();
        T.dueRow("16 falls to the right", r, 0, 2);
        WomenByTheRoofs b = Tester.made("h.", "w0:o;m1:o");
        b.tell(1);
        b.minute();
        T.dueRow("16 does not climb beside", b, 0, 0);
        WomenByTheRoofs s = Tester.made("s", "m0:o;w0:o");
        s.tell(0);
        s.minute();
        T.dueRow("16 climbs by a stair", s, 0, 2);
        WomenByTheRoofs c = Tester.made("..", "m0:o;m0:o;m1:o");
        c.tell(0);
        c.minute();
        T.dueRow("16 on its cell alone", c, 0, 2);
        WomenByTheRoofs t = Tester.made("s.", "w0:o;m0:o;m1:o");
        t.tell(1);
        t.minute();
        T.dueRow("16 who gets it now gives it later", t, 0, 1);
        t.minute();
        T.dueRow("16 later", t, 0, 4);
        WomenByTheRoofs f = Tester.made("ss", "w0:o;m1:o");
        f.tell(0);
        f.feast(1);
        f.minute();
        T.dueRow("16 a woman below drops none", f, 0, 0);
        WomenByTheRoofs w = Tester.made("hh", "w0:o;w1:o");
        w.tell(0);
        w.minute();
        T.dueRow("16 not to those above beside", w, 0, 0);
        WomenByTheRoofs g = Tester.made("hs", "w1:o");
        g.feast(1);
        Tester.folk(g, "w0:o");
        g.tell(1);
        g.minute();
        T.dueRow("16 to a woman below", g, 0, 1);
        WomenByTheRoofs m = Tester.made("..h", "m0:r;w2:o");
        m.tell(1);
        m.minute();
        T.dueRow("16 behind the steps", m, 1, 1);
        WomenByTheRoofs edge = Tester.made("..h/...", "w2:o;m3:o");
        edge.tell(0);
        edge.minute();
        T.dueRow("16 not round the edge", edge, 0, 0);
    }

    private static void ruleOfAMinute() {
        WomenByTheRoofs x = Tester.made("....", "m0:r;m1:r;m1:r");
        Tester.rule(x, "n=0");
        x.minute();
        T.dueRow("16 by numbers, as it is then", x, 0b001, 0);
        WomenByTheRoofs y = Tester.made("....", "m1:r;m1:r;m2:r");
        Tester.rule(y, "n=1");
        y.minute();
        T.dueRow("16 first two leave one after another", y, 0b101, 0);
        T.due("16 one that stays, its place too", y.person(1, 3), 0);
        WomenByTheRoofs z = Tester.made("....", "m0:rl");
        Tester.rule(z, "m>1");
        z.minutes(2);
        T.due("16 did not go", z.person(0, 3), 0);
        z.minute();
        T.due("16 goes then", z.person(0, 3), 1);
        Tester.rule(z, "0");
        z.minute();
        T.due("16 stays", z.person(0, 1), 1);
    }

    private static void minutes() {
        WomenByTheRoofs x = Tester.made("s.s", "m0:rrll;w2:o");
        T.due("17 61", x.minutes(61), -1);
        T.due("17 below 0", x.minutes(-1), -1);
        T.due("17 most", x.minutes(Integer.MAX_VALUE), -1);
        T.due("17 none", x.minutes(0), 0);
        T.dueRow("17 none", x, 0, 0);
        T.due("17 none is not undone", x.count(10), 0);
        x.tell(1);
        T.due("17 eight", x.minutes(8), 2);
        T.dueRow("17 eight", x, 8, 3);
        T.due("17 as one", x.count(10), 2);
        T.due("17 refused", x.minutes(61), -1);
        T.dueRow("17 refused leaves the ROW", x, 8, 3);
        T.due("17 sixty", x.minutes(60), 15);
        T.dueRow("17 sixty", x, 60, 3);
        T.due("17 now", x.count(3), 68);
        T.due("17 undo", x.undo(), 2);
        T.due("17 now is 8", x.count(3), 8);
        x.minutes(0);
        T.dueRow("17 none tells who has the news", x, 0, 3);
    }

    private static void evening() {
        WomenByTheRoofs x = Tester.made("s.sh.h", "m0:rr;w2:o;w3:r");
        T.due("18 nothing", Tester.evening(x, ""), 0);
        T.dueRow("18 nothing", x, 0, 0);
        T.due("18 all kinds", Tester.evening(x, "m02;nb;p3-05;x;f;f"), 6);
        T.dueRow("18 all kinds", x, 0, 1);
        T.due("18 text is emptied", x.count(12), 0);
        T.due("18 now", x.count(3), 2);
        T.due("18 news", x.count(6), 2);
        T.due("18 planks", x.count(4), 0);
        T.due("18 as one", x.count(10), 1);
        T.due("18 one more", Tester.evening(x, "p5-3;m1;nc;x;x;m9"), 4);
        T.dueRow("18 one could not be", x, 1, 1);
        T.due("18 she went over the plank", x.person(2, 1), 5);
        T.due("18 the plank is gone", x.path(1, 3, 5), -2);
        T.due("18 no minute more", x.count(3), 3);
        T.due("18 undo", x.undo(), 1);
        T.due("18 undone", x.person(2, 1), 3);
        T.due("18 news undone", x.count(6), 2);
        String[] cannot = {"m61", "m99", "nb", "nd", "nh", "p3-4", "p36-3", "x"};
        for (String text : cannot) {
            T.due("18 can't be " + text, Tester.evening(x, text), 0);
            T.dueRow("18 can't be " + text, x, 1, 0);
            T.due("18 not undone " + text, x.count(10), 1);
        }
        T.due("18 m60 can be", Tester.evening(x, "m60"), 1);
        T.due("18 m0 can be", Tester.evening(x, "m0"), 1);
        T.due("18 m0 is undone as one", x.count(10), 3);
        WomenByTheRoofs f = Tester.made("s.", "w0:r");
        T.due("18 a feast that does not end", Tester.evening(f, "f;m1;f;m1"), 2);
        T.dueRow("18 a feast that does not end", f, 1, 0);
        T.due("18 it is on", f.count(7), 1);
        WomenByTheRoofs p = Tester.made("h.h.h", "");
        T.due("18 planks of two digits", Tester.evening(p, "p00-02;p2-4;p4-2"), 2);
        WomenByTheRoofs n = Tester.made("s", "m0:o;w0:o");
        T.due("18 meetings ahead of a stop", Tester.evening(n, "m2;nc"), 1);
        T.dueRow("18 meetings ahead of a stop", n, 1, 2);
        StringBuilder many = new StringBuilder("f");
        for (int i = 1; i < 30; i++) {
            many.append(";f");
        }
        T.due("18 thirty", Tester.evening(n, many.toString()), 30);
    }

    private static void eveningTexts() {
        WomenByTheRoofs x = Tester.made("h.h", "w0:o");
        String[] bad = {"q", "m", "mx", "m123", "n", "ni", "n1", "p", "p-", "p0", "p0x", "p0-", "p0-x", "p000",
            "p0-222", "x;", ";", "xx", "ff", "f;;", "m1 ", "na;q", "naa"};
        int[] where = {0, 1, 1, 3, 1, 1, 1, 1, 1, 2, 2, 3, 3, 3, 5, 2, 0, 1, 1, 2, 2, 3, 2};
        for (int i = 0; i < bad.length; i++) {
            T.due("18 " + bad[i], Tester.evening(x, bad[i]), -1 - where[i]);
        }
        T.due("18 nothing is done", x.count(6), 0);
        T.due("18 nothing to undo", x.count(10), 0);
        T.due("18 60 signs", Tester.evening(x, Tester.repeat("m1;", 19) + "m00"), 20);
        T.due("18 61 signs", Tester.evening(x, Tester.repeat("m1;", 20) + "x"), -61);
        T.due("18 60 signs end too early", Tester.evening(x, Tester.repeat("m1;", 20)), -61);
        T.due("18 a number cut off", Tester.evening(x, Tester.repeat("m1;", 19) + "m001"), -61);
        T.due("18 a fault at 60", Tester.evening(x, Tester.repeat("m1;", 19) + "m00?"), -61);
        T.due("18 a fault at 59", Tester.evening(x, Tester.repeat("m1;", 19) + "m0?1"), -60);
        T.due("18 a plank cut off", Tester.evening(x, Tester.repeat("x;", 28) + "p0-222"), -61);
        T.due("18 an act behind the thirtieth", Tester.evening(x, Tester.repeat("x;", 30)), -61);
    }

    private static void undo() {
        WomenByTheRoofs y = Tester.made("s.h.h", "m0:rl;w0:o;w2:o");
        T.due("19 none", y.undo(), -1);
        y.tell(0);
        y.minute();
        y.feast(1);
        y.minutes(3);
        y.plank(2, 4);
        y.take();
        Tester.evening(y, "nc;m1;f");
        T.due("19 left 6", y.undo(), 6);
        T.due("19 evening undone", y.count(3) * 100 + y.count(6) * 10 + y.count(7), 431);
        T.due("19 left 5", y.undo(), 5);
        T.due("19 take undone", y.path(1, 2, 4), 1);
        T.due("19 left 4", y.undo(), 4);
        T.due("19 plank undone", y.path(1, 2, 4), -2);
        T.due("19 left 3", y.undo(), 3);
        T.due("19 minutes undone", y.count(3), 1);
        T.due("19 place undone", y.person(0, 3), 1);
        T.due("19 cell undone", y.person(0, 1), 1);
        T.due("19 left 2", y.undo(), 2);
        T.due("19 feast undone", y.person(1, 2), 1);
        T.due("19 left 1", y.undo(), 1);
        T.due("19 minute undone", y.count(3), 0);
        T.due("19 meetings undone", y.count(8), 0);
        T.due("19 left 0", y.undo(), 0);
        T.due("19 tell undone", y.count(6), 0);
        T.due("19 none left", y.undo(), -1);
        for (int i = 0; i < 14; i++) {
            y.minute();
        }
        T.due("19 twelve are kept", y.count(10), 12);
        for (int i = 11; i >= 0; i--) {
            T.due("19 back", y.undo(), i);
            T.due("19 back to", y.count(3), 2 + i);
        }
        T.due("19 the latest ones", y.count(3), 2);
        T.due("19 no more", y.undo(), -1);
        forgets();
    }

    private static WomenByTheRoofs told() {
        WomenByTheRoofs x = Tester.made("s.", "m0:rl");
        x.keep(0);
        x.tell(0);
        return x;
    }

    private static void forgets() {
        WomenByTheRoofs x = told();
        Tester.town(x, "?");
        x.build(0, 2);
        Tester.folk(x, "");
        Tester.folk(x, "w1:r");
        Tester.route(x, 0, "");
        Tester.route(x, 1, "r");
        x.again(1);
        Tester.rule(x, "m");
        x.fire(1);
        x.sheet(2, 1, 1, 1);
        x.keep(1);
        T.due("19 refused ones forget nothing", x.count(10), 1);
        x.undo();
        T.due("19 the fire is not undone", x.count(9), 1);
        T.due("19 places are", x.person(0, 3), 0);
        x = told();
        Tester.town(x, "s");
        T.due("19 town() forgets", x.undo(), -1);
        x = told();
        x.build(1, 1);
        T.due("19 build() forgets", x.undo(), -1);
        x = told();
        Tester.folk(x, "m1:r");
        T.due("19 folk() forgets", x.undo(), -1);
        x = told();
        Tester.route(x, 0, "r");
        T.due("19 route() forgets", x.undo(), -1);
        x = told();
        x.again(0);
        T.due("19 again() forgets", x.undo(), -1);
    }

    private static void met() {
        WomenByTheRoofs x = Tester.made("s", "m0:o;w0:o;m0:o;w0:o");
        x.minutes(3);
        T.due("20 a man and a woman", x.met(0, 1), 3);
        T.due("20 a woman and a man", x.met(3, 2), 3);
        T.due("20 two men", x.met(0, 2), 0);
        T.due("20 two women", x.met(1, 3), 0);
        T.due("20 like ones", x.met(1, 1), -1);
        T.due("20 none such", x.met(0, 4), -1);
        T.due("20 none such first", x.met(4, 0), -1);
        T.due("20 none such below 0", x.met(0, -1), -1);
        T.due("20 of one", x.person(0, 6), 6);
        T.due("20 of all", x.count(8), 12);
    }

    private static void ahead() {
        WomenByTheRoofs x = Tester.made("s.s", "m0:rr;w2:o;m1:l");
        T.due("21 61", x.ahead(61), -1);
        T.due("21 below 0", x.ahead(-1), -1);
        T.due("21 none", x.ahead(0), 0);
        T.dueRow("21 none", x, 0, 2, 1);
        T.due("21 two", x.ahead(2), 1);
        T.dueRow("21 two", x, 2, 2, 0);
        T.due("21 sixty", x.ahead(60), 59);
        T.due("21 nothing changes", x.count(3) + x.count(8) + x.count(10), 0);
        T.due("21 nor places", x.person(0, 3), 0);
        T.due("21 nobody goes", x.person(0, 1), 0);
        WomenByTheRoofs e = new WomenByTheRoofs();
        T.due("21 nobody", e.ahead(5), 0);
        T.dueRow("21 nobody", e);
    }

    private static void meet() {
        WomenByTheRoofs x = Tester.made("s.s", "m0:rr;w2:o;m1:l;w0:o");
        T.due("22 in two", x.meet(0, 1), 2);
        T.dueRow("22 in two", x, 2);
        T.due("22 in one", x.meet(3, 2), 1);
        T.dueRow("22 in one", x, 0);
        T.due("22 together now, then not", x.meet(0, 3), -2);
        T.dueRow("22 not in these", x, 0);
        T.due("22 two men", x.meet(0, 2), -2);
        T.due("22 two women", x.meet(1, 3), -2);
        T.due("22 like ones", x.meet(2, 2), -1);
        T.due("22 others", x.meet(0, 4), -1);
        T.due("22 others below 0", x.meet(-1, 0), -1);
        T.due("22 nothing changes", x.count(3) + x.count(8), 0);
        WomenByTheRoofs y = Tester.made("s.", "m1:l;w0:o");
        Tester.rule(y, "m=59");
        T.due("22 in sixty", y.meet(0, 1), 60);
        Tester.rule(y, "m=60");
        T.due("22 in 61", y.meet(0, 1), -2);
    }

    private static void known() {
        WomenByTheRoofs x = Tester.made("s..", "w0:o;m1:o;m2:llrr");
        T.due("23 nobody knows", x.known(), -2);
        T.dueRow("23 nobody knows", x, 0);
        x.tell(2);
        T.due("23 in two", x.known(), 2);
        T.dueRow("23 in two", x, 7);
        Tester.route(x, 2, "lr");
        T.due("23 not in these", x.known(), -2);
        T.dueRow("23 not in these", x, 6);
        WomenByTheRoofs y = Tester.made("h.", "w0:o;m1:o");
        y.tell(0);
        T.due("23 in one", y.known(), 1);
        T.dueRow("23 in one", y, 3);
        y.minute();
        T.due("23 at once", y.known(), 0);
        T.dueRow("23 at once", y, 3);
        T.due("23 nothing changes", y.count(3), 1);
        WomenByTheRoofs z = Tester.made("h.", "w0:o;m1:o");
        z.tell(1);
        T.due("23 it does not climb", z.known(), -2);
        T.dueRow("23 it does not climb", z, 2);
        WomenByTheRoofs l = Tester.made("h..", "w0:o;m2:l");
        l.tell(0);
        Tester.rule(l, "m=59");
        T.due("23 in sixty", l.known(), 60);
        Tester.rule(l, "m=60");
        T.due("23 in 61", l.known(), -2);
        T.dueRow("23 in 61", l, 1);
        T.due("23 nobody there", new WomenByTheRoofs().known(), 0);
    }

    private static void gossip() {
        WomenByTheRoofs x = Tester.made("h./.#", "m1:o;w0:o;m2:o");
        T.due("24 she drops it on both", x.gossip(1), 1);
        T.dueRow("24 she drops it on both", x, 3);
        T.due("24 none: the first", x.gossip(0), 0);
        T.dueRow("24 none: the first", x, 1);
        T.due("24 another n", x.gossip(61), -2);
        T.due("24 another n below 0", x.gossip(-1), -2);
        T.dueRow("24 another n leaves the ROW", x, 1);
        x.tell(1);
        T.due("24 as good with nobody", x.gossip(1), -1);
        T.dueRow("24 as good with nobody", x, 3);
        T.due("24 of equal ones the first", x.gossip(0), 0);
        T.dueRow("24 of equal ones the first", x, 2);
        T.due("24 nothing changes", x.count(6), 2);
        WomenByTheRoofs e = new WomenByTheRoofs();
        T.due("24 nobody", e.gossip(60), -1);
        T.dueRow("24 nobody", e, 0);
    }
}
