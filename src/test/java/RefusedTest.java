/**
 * "Refused calls answer NONE, or false, and change nothing but THE TEXT, which a call that reads it empties":
 * each refusal of the face, on an object that holds something of all; and "Questions change nothing".
 */
public final class RefusedTest {
    private static final Tester T = new Tester("RefusedTest");
    private static final int LEAST = Integer.MIN_VALUE;
    private static final int MOST = Integer.MAX_VALUE;
    private static final int[] NO_CELLS = {-1, 15, 16, 36, LEAST, MOST};
    private static final int[] NO_PEOPLE = {-1, 4, 8, 32, LEAST, MOST};
    private static final int[] NO_LEVELS = {-1, 2, LEAST, MOST};

    public static void main(String[] args) {
        texts();
        readers();
        lookers();
        builders();
        sheets();
        minutes();
        toCome();
        nets();
        pairs();
        fires();
        thieves();
        kept();
        undoneStill();
        questions();
        T.finish();
    }

    /**
     * s.h.h
     * ..s..
     * h.h.s with people, two planks, news, a fire, two minutes gone by, something kept, a ROW and half a text.
     */
    private static WomenByTheRoofs busy() {
        WomenByTheRoofs x = Tester.made("s.h.h/..s../h.h.s", "m0:rdl;w2:dru;m7:o;w0:rlu");
        x.fire(6);
        x.plank(2, 4);
        x.plank(10, 12);
        x.tell(1);
        x.minute();
        x.keep(0);
        x.minute();
        Tester.say(x, "m0:u?");
        return x;
    }

    private static void texts() {
        WomenByTheRoofs x = busy();
        T.refused("3 end() of more than there are", x, () -> x.end(6) ? 1 : 0, 0);
        T.refused("3 end() below 0", x, () -> x.end(-1) ? 1 : 0, 0);
        T.refused("3 end() of the least", x, () -> x.end(LEAST) ? 1 : 0, 0);
        T.refused("3 end() of the most", x, () -> x.end(MOST) ? 1 : 0, 0);
        Tester.say(x, ".".repeat(80));
        T.refused("2 sign() of 80", x, () -> x.sign(0x73737373), -1);
        for (int many = 77; many < 80; many++) {
            x.end(many);
            Tester.say(x, ".".repeat(many));
            T.refused("2 sign() of " + many, x, () -> x.sign(0x73737373), -1);
        }
        x.end(6);
        T.due("2 and none of them came", x.town(), 6);
        T.due("2 all of it as it was told", x.cell(5, 0), 1);
    }

    private static void readers() {
        WomenByTheRoofs x = busy();
        T.refusedText("4 town() of nothing", x, "", x::town, -1);
        T.refusedText("4 town() that can't be", x, "..?", x::town, -3);
        T.refusedText("4 town() of a row too few signs", x, "../.", x::town, -5);
        T.refusedText("4 town() of 80 signs", x, ".".repeat(80), x::town, -7);
        T.refusedText("5 folk() that can't be", x, "m0:u;q", x::folk, -6);
        T.refusedText("5 folk() of a house for a man", x, "m0:u;w0:u;m2:u", x::folk, -12);
        T.refusedText("5 folk() for whom there is no room", x, "m0:u;m0:u;m0:u;w0:u;w0:u", x::folk, -21);
        T.refusedText("5 folk() of 80 signs", x, "m0:urdlourdl;".repeat(3) + "u".repeat(41), x::folk, -40);
        T.refusedText("6 rule() that can't be", x, "m+", x::rule, -3);
        T.refusedText("6 rule() of 41 signs", x, "-".repeat(40) + "0", x::rule, -41);
        T.refusedText("7 route() of nothing", x, "", () -> x.route(0), -1);
        T.refusedText("7 route() of ten signs", x, "urdlourdlo", () -> x.route(0), -10);
        for (int none : NO_PEOPLE) {
            T.refusedText("7 route() of none such", x, "o", () -> x.route(none), -100);
        }
        T.refusedText("18 evening() that can't be", x, "m1;x;f;", x::evening, -8);
        T.refusedText("18 evening() of 61 signs", x, "m1;".repeat(20) + "f", x::evening, -61);
        T.due("6 the rule is none still", x.person(0, 7), 1);
        T.due("19 all can be undone still", x.undo(), 4);
        T.due("43 what was kept is there still", x.again(0), true);
    }

    private static void lookers() {
        WomenByTheRoofs x = busy();
        String before = Tester.stateOf(x);
        for (int none : NO_CELLS) {
            for (int what = 0; what < 6; what++) {
                int asked = what;
                T.dueNone("8 cell(" + none + ", " + what + ")", () -> x.cell(none, asked));
            }
        }
        for (int none : NO_PEOPLE) {
            for (int what = 0; what < 8; what++) {
                int asked = what;
                T.dueNone("9 person(" + none + ", " + what + ")", () -> x.person(none, asked));
            }
        }
        for (int what : new int[] {-1, 6, 7, LEAST, MOST}) {
            T.dueNone("8 cell(0, " + what + ")", () -> x.cell(0, what));
        }
        for (int what : new int[] {-1, 8, LEAST, MOST}) {
            T.dueNone("9 person(0, " + what + ")", () -> x.person(0, what));
        }
        for (int i : new int[] {-1, 2, 9, 10, 11, LEAST, MOST}) {
            T.dueNone("45 row(" + i + ")", () -> x.row(i));
        }
        for (int what : new int[] {-1, 13, 100, LEAST, MOST}) {
            T.refused("44 count(" + what + ")", x, () -> x.count(what), -100);
        }
        T.same("8 9 45 what throws changes nothing", Tester.stateOf(x), before);
    }

    private static void builders() {
        WomenByTheRoofs x = busy();
        for (int none : NO_CELLS) {
            T.refused("10 build() of no such cell", x, () -> x.build(none, 1), -1);
            T.refused("11 plank() from no such cell", x, () -> x.plank(none, 2), -1);
            T.refused("11 plank() to no such cell", x, () -> x.plank(2, none), -1);
        }
        for (int what : new int[] {-1, 4, LEAST, MOST}) {
            T.refused("10 build() of another kind", x, () -> x.build(8, what), -1);
        }
        T.refused("10 build() where a man could not be", x, () -> x.build(7, 2), -1);
        T.refused("10 build() of a plank's end", x, () -> x.build(10, 1), -1);
        T.refused("10 build() under a plank", x, () -> x.build(11, 2), -1);
        T.refused("11 plank() of no such roofs", x, () -> x.plank(0, 1), -2);
        T.refused("11 plank() of one that is there", x, () -> x.plank(4, 2), -3);
        x.plank(12, 14);
        x.plank(0, 2);
        x.plank(0, 10);
        x.plank(4, 14);
        T.due("11 six are there", x.count(4), 6);
        T.refused("11 plank() of one that is there, of six", x, () -> x.plank(14, 4), -3);
        WomenByTheRoofs y = Tester.made("h.h.h/...../h.h.h", "w0:o");
        y.plank(0, 2);
        y.plank(2, 4);
        y.plank(10, 12);
        y.plank(12, 14);
        y.plank(0, 10);
        y.plank(2, 12);
        T.refused("11 plank() of a seventh", y, () -> y.plank(4, 14), -4);
        WomenByTheRoofs z = Tester.made("h.h", "w0:o");
        z.tell(0);
        T.refused("12 take() of none", z, z::take, -1);
        WomenByTheRoofs none = new WomenByTheRoofs();
        T.refused("19 undo() of none", none, none::undo, -1);
    }

    private static void sheets() {
        WomenByTheRoofs x = busy();
        for (int kind : new int[] {-1, 4, LEAST, MOST}) {
            T.refused("13 sheet() of another kind", x, () -> x.sheet(kind, 1, 1, 1), -1);
            T.refused("13 another kind first", x, () -> x.sheet(kind, -1, 1, 1), -1);
        }
        for (int kind = 0; kind < 4; kind++) {
            int of = kind;
            T.refused("13 sheet() of 9", x, () -> x.sheet(of, 9, 1, 1), -1);
            T.refused("13 sheet() of the most", x, () -> x.sheet(of, MOST, 1, 1), -1);
        }
        for (int kind = 0; kind < 3; kind++) {
            int of = kind;
            T.refused("13 sheet() below 0", x, () -> x.sheet(of, -1, 1, 1), -2);
            T.refused("13 sheet() of the least", x, () -> x.sheet(of, LEAST, 1, 1), -2);
        }
    }

    private static void minutes() {
        WomenByTheRoofs x = busy();
        for (int none : NO_PEOPLE) {
            T.refused("14 tell() of none such", x, () -> x.tell(none), -1);
            T.refused("20 met() of none such", x, () -> x.met(0, none), -1);
            T.refused("20 met() of none such first", x, () -> x.met(none, 1), -1);
            T.refused("20 met() of none such, like ones", x, () -> x.met(none, none), -1);
        }
        T.refused("14 tell() of one that has it", x, () -> x.tell(1), -1);
        for (int person = 0; person < 4; person++) {
            int one = person;
            T.refused("20 met() of like ones", x, () -> x.met(one, one), -1);
        }
        for (int is : new int[] {-1, 2, LEAST, MOST}) {
            T.refused("15 feast() of others", x, () -> x.feast(is), -1);
        }
        T.refused("15 feast() that is not", x, () -> x.feast(0), -1);
        for (int n : new int[] {-1, 61, LEAST, MOST}) {
            T.refused("17 minutes() of another n", x, () -> x.minutes(n), -1);
        }
        WomenByTheRoofs f = Tester.made("s.", "w0:ro");
        f.feast(1);
        T.refused("15 feast() that is so", f, () -> f.feast(1), -1);
        f.minute();
        T.refused("15 feast() that can't end", f, () -> f.feast(0), -1);
    }

    private static void toCome() {
        WomenByTheRoofs x = busy();
        for (int n : new int[] {-1, 61, LEAST, MOST}) {
            T.refused("21 ahead() of another n", x, () -> x.ahead(n), -1);
            T.refused("24 gossip() of another n", x, () -> x.gossip(n), -2);
        }
        for (int none : NO_PEOPLE) {
            T.refused("22 meet() of others", x, () -> x.meet(0, none), -1);
            T.refused("22 meet() of others first", x, () -> x.meet(none, 0), -1);
            T.refused("22 meet() of others, like ones", x, () -> x.meet(none, none), -1);
        }
        T.refused("22 meet() of like ones", x, () -> x.meet(3, 3), -1);
        T.refused("22 meet() that is not in these", x, () -> x.meet(0, 2), -2);
    }

    private static void nets() {
        WomenByTheRoofs x = busy();
        for (int none : NO_LEVELS) {
            T.refused("25 pieces() of others", x, () -> x.pieces(none), -1);
            T.refused("26 reach() of another level", x, () -> x.reach(none, 0), -1);
            T.refused("27 path() of another level", x, () -> x.path(none, 0, 0), -1);
            T.refused("28 both() from another level", x, () -> x.both(none, 0, 0, 0), -1);
            T.refused("28 both() to another level", x, () -> x.both(0, 0, none, 0), -1);
        }
        for (int none : NO_CELLS) {
            for (int of = 0; of < 2; of++) {
                int level = of;
                T.refused("26 reach() from no such cell", x, () -> x.reach(level, none), -1);
                T.refused("27 path() from no such cell", x, () -> x.path(level, none, 0), -1);
                T.refused("27 path() to no such cell", x, () -> x.path(level, 0, none), -1);
                T.refused("28 both() from no such cell", x, () -> x.both(level, none, 0, 0), -1);
                T.refused("28 both() to no such cell", x, () -> x.both(0, 0, level, none), -1);
            }
            T.refused("29 errand() from no such cell", x, () -> x.errand(none, 0), -1);
            T.refused("29 errand() to no such cell", x, () -> x.errand(0, none), -1);
            T.refused("33 planks() from no such cell", x, () -> x.planks(none, 2), -1);
            T.refused("33 planks() to no such cell", x, () -> x.planks(2, none), -1);
        }
        T.refused("26 reach() of a house below", x, () -> x.reach(0, 2), -2);
        T.refused("26 reach() of a street above", x, () -> x.reach(1, 1), -2);
        T.refused("27 path() from a house below", x, () -> x.path(0, 2, 1), -1);
        T.refused("27 path() to a street above", x, () -> x.path(1, 2, 1), -1);
        T.refused("27 path() that can't be", x, () -> x.path(1, 0, 2), -2);
        T.refused("28 both() from a house below", x, () -> x.both(0, 2, 0, 1), -1);
        T.refused("28 both() to a street above", x, () -> x.both(0, 1, 1, 1), -1);
        T.refused("29 errand() from a house", x, () -> x.errand(2, 0), -1);
        T.refused("29 errand() to a street", x, () -> x.errand(0, 1), -1);
        T.refused("33 planks() from a street", x, () -> x.planks(1, 0), -1);
        T.refused("33 planks() to a street", x, () -> x.planks(0, 1), -1);
        WomenByTheRoofs y = Tester.made("s.#s/h##h", "m1:o;w0:o");
        y.pieces(0);
        T.refused("28 both() that can't be", y, () -> y.both(0, 0, 0, 3), -2);
        T.refused("29 errand() that none can", y, () -> y.errand(1, 7), -2);
        T.refused("33 planks() by none", y, () -> y.planks(0, 3), -2);
        T.refused("37 wardrobe() that can't be", y, () -> y.wardrobe(0, 3), -2);
    }

    private static void pairs() {
        WomenByTheRoofs x = busy();
        int[][] others = {{-1, 1}, {0, -1}, {0, 4}, {4, 1}, {8, 1}, {0, 8}, {LEAST, 1}, {0, MOST}, {1, 0}, {0, 2},
            {1, 3}, {0, 0}, {1, 1}, {MOST, LEAST}};
        for (int[] two : others) {
            T.refused("30 tryst() of others", x, () -> x.tryst(two[0], two[1]), -1);
            T.refused("31 open() of others", x, () -> x.open(two[0], two[1]), -1);
            T.refused("32 part() of others", x, () -> x.part(two[0], two[1]), -1);
        }
        WomenByTheRoofs y = Tester.made(".#h", "m0:o;w2:o");
        y.pieces(1);
        T.refused("30 tryst() of none", y, () -> y.tryst(0, 1), -2);
        T.refused("31 open() that lets them not", y, () -> y.open(0, 1), -2);
        WomenByTheRoofs z = Tester.made("s", "m0:o;w0:o");
        z.pieces(1);
        T.refused("32 part() of two on a stair", z, () -> z.part(0, 1), -2);
    }

    private static void fires() {
        WomenByTheRoofs x = busy();
        for (int none : new int[] {-2, 15, 36, LEAST, MOST}) {
            T.refused("34 fire() in no such cell", x, () -> x.fire(none), -2);
        }
        for (int n : new int[] {-1, 61, LEAST, MOST}) {
            T.refused("35 fights() of another n", x, () -> x.fights(n), -1);
        }
        for (int none : NO_CELLS) {
            T.refused("37 wardrobe() from no such cell", x, () -> x.wardrobe(none, 0), -1);
            T.refused("37 wardrobe() to no such cell", x, () -> x.wardrobe(0, none), -1);
        }
        T.refused("37 wardrobe() from a street", x, () -> x.wardrobe(1, 0), -1);
        T.refused("37 wardrobe() to a house", x, () -> x.wardrobe(0, 2), -1);
        x.fire(-1);
        T.refused("35 fights() without a fire", x, () -> x.fights(5), -2);
        T.refused("36 saved() without a fire", x, x::saved, -2);
        WomenByTheRoofs y = Tester.made("h.#", "m1:o;w0:o");
        y.pieces(0);
        y.fire(2);
        T.refused("36 saved() that can't be", y, y::saved, -2);
    }

    private static void thieves() {
        WomenByTheRoofs x = busy();
        for (int none : NO_CELLS) {
            T.refused("38 flees() from no such cell", x, () -> x.flees(none, 0, 1), -1);
            T.refused("40 caught() on no such cell", x, () -> x.caught(none, 1), -1);
            T.refused("41 watch() from no such cell", x, () -> x.watch(none, 0, 0, 0), -1);
            T.refused("41 watch() of no such aim", x, () -> x.watch(0, 0, none, 0), -1);
        }
        for (int none : NO_LEVELS) {
            T.refused("38 flees() on another level", x, () -> x.flees(0, none, 1), -1);
            T.refused("40 caught() on another level", x, () -> x.caught(0, none), -1);
            T.refused("41 watch() from another level", x, () -> x.watch(0, none, 0, 0), -1);
            T.refused("41 watch() of another level's aim", x, () -> x.watch(0, 0, 0, none), -1);
        }
        for (int n : new int[] {-1, 0, 31, LEAST, MOST}) {
            T.refused("38 flees() of another n", x, () -> x.flees(0, 0, n), -1);
            T.refused("39 lairs() of another n", x, () -> x.lairs(n), -1);
        }
        T.refused("38 flees() not of that net", x, () -> x.flees(1, 1, 1), -1);
        T.refused("40 caught() not of that net", x, () -> x.caught(2, 0), -1);
        T.refused("41 watch() not of that net", x, () -> x.watch(2, 0, 0, 0), -1);
        T.refused("41 watch() of an aim not of that net", x, () -> x.watch(0, 0, 1, 1), -1);
        T.refused("41 watch() for which all do not do", x, () -> x.watch(1, 0, 0, 0), -2);
    }

    private static void kept() {
        WomenByTheRoofs x = busy();
        for (int none : new int[] {-1, 2, 31, 32, LEAST, MOST}) {
            T.refused("42 keep() of others", x, () -> x.keep(none) ? 1 : 0, 0);
            T.refused("43 again() of others", x, () -> x.again(none) ? 1 : 0, 0);
        }
        T.refused("43 again() of nothing kept", x, () -> x.again(1) ? 1 : 0, 0);
        Tester.folk(x, "m0:u");
        T.refused("43 again() when people came", x, () -> x.again(0) ? 1 : 0, 0);
        x.keep(0);
        x.build(8, 1);
        x.tell(0);
        T.refused("43 again() when cells were built", x, () -> x.again(0) ? 1 : 0, 0);
        x.keep(0);
        Tester.route(x, 0, "o");
        x.tell(2);
        T.refused("43 again() when a route was told", x, () -> x.again(0) ? 1 : 0, 0);
    }

    /** What can be undone, and what is kept, can't be looked at: so they are brought back behind refused calls. */
    private static void undoneStill() {
        WomenByTheRoofs x = busy();
        WomenByTheRoofs y = busy();
        x.tell(1);
        x.plank(2, 4);
        x.feast(0);
        x.minutes(61);
        Tester.evening(x, "m61");
        Tester.folk(x, "q");
        Tester.route(x, 9, "u");
        x.build(7, 2);
        x.again(1);
        x.keep(2);
        x.sheet(0, -1, 1, 1);
        for (int left = 4; left >= 0; left--) {
            T.due("19 left", x.undo(), left);
            y.undo();
            T.same("19 as ahead of it", Tester.stateOf(x), Tester.stateOf(y));
        }
        x.undo();
        T.due("43 as it was kept", x.again(0), y.again(0));
        T.same("43 as it was kept", Tester.stateOf(x), Tester.stateOf(y));
    }

    private static void questions() {
        WomenByTheRoofs x = busy();
        int before = x.count(10);
        String was = Tester.stateOf(x);
        x.met(0, 1);
        x.ahead(60);
        x.meet(0, 1);
        x.known();
        x.gossip(60);
        x.pieces(0);
        x.reach(1, 2);
        x.path(0, 0, 14);
        x.both(0, 0, 1, 14);
        x.errand(0, 14);
        x.tryst(0, 1);
        x.open(0, 1);
        x.part(0, 1);
        x.planks(0, 14);
        x.fights(60);
        x.saved();
        x.wardrobe(0, 14);
        x.flees(0, 0, 30);
        x.lairs(30);
        x.caught(0, 0);
        x.watch(0, 0, 14, 1);
        T.same("questions change nothing", Tester.stateOf(x), was);
        T.due("nor what can be undone", x.count(10), before);
        T.due("nor the text", x.count(12), 5);
        WomenByTheRoofs y = busy();
        x.minutes(20);
        y.minutes(20);
        T.same("nor minutes to come", Tester.stateOf(x), Tester.stateOf(y));
        x.again(0);
        y.again(0);
        T.same("nor what is kept", Tester.stateOf(x), Tester.stateOf(y));
    }
}
