import java.util.NoSuchElementException;
import java.util.Random;

/**
 * Long runs of calls, drawn from fixed seeds, on the class and on Plain side by side: each answer, each ROW
 * and each state must be the same, and nothing but what the document tells may be thrown.
 */
public final class SoakTest {
    private static final Tester T = new Tester("SoakTest");
    private static final int RUNS = 500;
    private static final int CALLS = 300;
    private static final long THROWN = Long.MIN_VALUE;

    private final Random random;
    private final WomenByTheRoofs x = new WomenByTheRoofs();
    private final Plain y = new Plain();
    private final StringBuilder log = new StringBuilder();
    private boolean apart;

    private SoakTest(int seed) {
        random = new Random(seed);
    }

    public static void main(String[] args) {
        int runs = args.length > 1 ? Integer.parseInt(args[1]) : RUNS;
        for (int seed = 1; seed <= runs; seed++) {
            SoakTest run = new SoakTest(seed);
            run.start();
            for (int i = 0; i < CALLS && !run.apart; i++) {
                run.call();
            }
            T.due("run " + seed, run.apart, false);
            if (run.apart) {
                System.out.println(run.log);
                break;
            }
        }
        T.finish();
    }

    private void same(String call, long got, long want) {
        log.append(call).append(" = ").append(got).append('\n');
        if (got != want) {
            log.append("  plain: ").append(want).append('\n');
            apart = true;
        }
        for (int i = 0; i < 14; i++) {
            if (x.count(i) != y.count(i)) {
                log.append("  count(").append(i).append(") ").append(x.count(i)).append(", plain: ")
                        .append(y.count(i)).append('\n');
                apart = true;
            }
        }
        for (int i = 0; i < x.count(11) && i < y.count(11); i++) {
            if (x.row(i) != y.row(i)) {
                log.append("  row(").append(i).append(") ").append(x.row(i)).append(", plain: ")
                        .append(y.row(i)).append('\n');
                apart = true;
            }
        }
    }

    private void sameState() {
        for (int i = 0; i < x.count(0); i++) {
            for (int what = 0; what < 6; what++) {
                if (x.cell(i, what) != y.cell(i, what)) {
                    log.append("  cell(").append(i).append(", ").append(what).append(")\n");
                    apart = true;
                }
            }
        }
        for (int i = 0; i < x.count(2); i++) {
            for (int what = 0; what < 8; what++) {
                if (x.person(i, what) != y.person(i, what)) {
                    log.append("  person(").append(i).append(", ").append(what).append(")\n");
                    apart = true;
                }
            }
            for (int k = 0; k < x.count(2); k++) {
                if (x.met(i, k) != y.met(i, k)) {
                    log.append("  met(").append(i).append(", ").append(k).append(")\n");
                    apart = true;
                }
            }
        }
    }

    // ---- what is drawn

    private int below(int n) {
        return random.nextInt(n);
    }

    private boolean chance(int percent) {
        return below(100) < percent;
    }

    private int odd() {
        int[] some = {-1, -2, 36, 37, 61, 100, Integer.MIN_VALUE, Integer.MAX_VALUE};
        return some[below(some.length)];
    }

    private int someCell() {
        return chance(4) ? odd() : chance(4) ? x.count(0) : below(x.count(0));
    }

    /** A cell of a net, mostly. */
    private int netCell(int level) {
        int cell = someCell();
        for (int i = 0; i < 12; i++) {
            if (cell >= 0 && cell < x.count(0) && (x.cell(cell, 0) >> (level & 1) & 1) != 0) {
                return cell;
            }
            cell = someCell();
        }
        return cell;
    }

    private int stair() {
        int cell = someCell();
        for (int i = 0; i < 20; i++) {
            if (cell >= 0 && cell < x.count(0) && x.cell(cell, 0) == 3) {
                return cell;
            }
            cell = someCell();
        }
        return cell;
    }

    private int someone() {
        return chance(4) ? odd() : below(Math.max(1, x.count(2)) + (chance(10) ? 1 : 0));
    }

    private int one(boolean woman) {
        int who = someone();
        for (int i = 0; i < 12; i++) {
            if (who >= 0 && who < x.count(2) && (x.count(5) >> who & 1) == (woman ? 1 : 0)) {
                return who;
            }
            who = someone();
        }
        return who;
    }

    private int level() {
        return chance(3) ? odd() : below(2);
    }

    private int some(int most) {
        return chance(4) ? (chance(50) ? odd() : most + 1) : chance(10) ? most : below(chance(50) ? 8 : most + 1);
    }

    private String townText() {
        int wide = 1 + below(6);
        int high = 1 + below(6);
        String[] kinds = {"..hhss#", ".hs", "s", ".hs#", "ss.h", "..hh.hs", "h.h.s"};
        String signs = kinds[below(kinds.length)];
        StringBuilder text = new StringBuilder();
        for (int row = 0; row < high; row++) {
            text.append(row > 0 ? "/" : "");
            for (int column = 0; column < wide; column++) {
                text.append(signs.charAt(below(signs.length())));
            }
        }
        return text.toString();
    }

    private String routeText() {
        StringBuilder text = new StringBuilder();
        int many = 1 + below(chance(20) ? 9 : 4);
        for (int i = 0; i < many; i++) {
            text.append("urdlo".charAt(below(chance(20) ? 5 : 4)));
        }
        return text.toString();
    }

    private String number(int value) {
        return value >= 0 && value < 10 && chance(30) ? "0" + value : String.valueOf(Math.abs(value % 100));
    }

    private String folkText() {
        StringBuilder text = new StringBuilder();
        int lines = 1 + below(chance(30) ? 8 : 4);
        for (int i = 0; i < lines; i++) {
            boolean woman = chance(50);
            text.append(i > 0 ? ";" : "").append(woman ? 'w' : 'm');
            text.append(number(netCell(woman ? 1 : 0))).append(':').append(routeText());
        }
        return text.toString();
    }

    private String thing(int depth) {
        String minus = chance(15) ? "-" : "";
        if (depth < 5 && chance(25)) {
            return minus + "(" + expression(depth + 1) + ")";
        }
        if (chance(35)) {
            return minus + below(chance(30) ? 1200 : 5);
        }
        return minus + "miwxynsk".charAt(below(8));
    }

    private String expression(int depth) {
        StringBuilder text = new StringBuilder(thing(depth));
        for (int i = below(3); i > 0; i--) {
            text.append("+-*/".charAt(below(4))).append(thing(depth));
        }
        if (chance(40)) {
            text.append("<>=".charAt(below(3))).append(thing(depth));
        }
        return text.toString();
    }

    private String eveningText() {
        StringBuilder text = new StringBuilder();
        int acts = 1 + below(chance(10) ? 20 : 5);
        for (int i = 0; i < acts; i++) {
            text.append(i > 0 ? ";" : "");
            switch (below(6)) {
                case 0: text.append('m').append(number(chance(5) ? 58 + below(6) : below(5))); break;
                case 1: text.append('n').append((char) ('a' + below(chance(80) ? 4 : 8))); break;
                case 2: text.append('p').append(number(netCell(1))).append('-').append(number(netCell(1))); break;
                case 3: text.append('x'); break;
                case 4: text.append('f'); break;
                default: text.append("m1");
            }
        }
        return text.toString();
    }

    private String spoil(String text, String signs) {
        StringBuilder spoiled = new StringBuilder(text);
        int at = below(text.length() + 1);
        char any = (char) below(256);
        String sign = String.valueOf(chance(25) ? any : signs.charAt(below(signs.length())));
        switch (below(4)) {
            case 0: spoiled.insert(at, sign); break;
            case 1: spoiled.setLength(at); break;
            case 2: if (at < text.length()) { spoiled.deleteCharAt(at); } break;
            default: if (at < text.length()) { spoiled.setCharAt(at, sign.charAt(0)); }
        }
        return spoiled.toString();
    }

    private void say(String text, String signs) {
        String told = text;
        while (chance(20)) {
            told = spoil(told, signs);
        }
        if (told.length() > 80) {
            told = told.substring(0, 80);
        }
        log.append("text ").append(told).append('\n');
        if (chance(90)) {
            same("end(0)", x.end(0) ? 1 : 0, y.end(0) ? 1 : 0);
        }
        int had = x.count(12);
        for (int i = 0; i < told.length(); i += 4) {
            int four = 0;
            for (int k = 0; k < 4; k++) {
                four = four << 8 | (i + k < told.length() ? told.charAt(i + k) : 0);
            }
            same("sign(" + four + ")", x.sign(four), y.sign(four));
        }
        int n = chance(3) ? odd() : had + told.length();
        same("end(" + n + ")", x.end(n) ? 1 : 0, y.end(n) ? 1 : 0);
    }

    private void start() {
        say(townText(), ".hs#/");
        same("town()", x.town(), y.town());
        say(folkText(), "mw0123456789:;urdlo");
        same("folk()", x.folk(), y.folk());
    }

    // ---- calls

    private void call() {
        int which = below(100);
        if (which < 12) {
            textCall();
        } else if (which < 40) {
            change();
        } else if (which < 90) {
            question();
        } else {
            look();
        }
        if (chance(20)) {
            sameState();
        }
    }

    private void textCall() {
        int which = below(100);
        if (which < 3) {
            start();
        } else if (which < 20) {
            say(chance(5) ? "" : folkText(), "mw0123456789:;urdlo");
            same("folk()", x.folk(), y.folk());
        } else if (which < 50) {
            say(chance(15) ? "" : expression(0), "miwxynsk0123456789()<>=+-*/");
            same("rule()", x.rule(), y.rule());
        } else if (which < 65) {
            int who = someone();
            say(routeText(), "urdlox");
            same("route(" + who + ")", x.route(who), y.route(who));
        } else {
            say(chance(5) ? "" : eveningText(), "mnpxf;-0123456789abcdefghi");
            same("evening()", x.evening(), y.evening());
        }
    }

    private void change() {
        int a = someCell();
        int b = someCell();
        int k = below(3);
        switch (below(14)) {
            case 0:
                int what = chance(5) ? odd() : below(4);
                same("build(" + a + ", " + what + ")", x.build(a, what), y.build(a, what));
                break;
            case 1:
            case 2:
                b = a + (chance(50) ? 2 : 2 * x.count(1)) * (chance(50) ? 1 : -1);
                same("plank(" + a + ", " + b + ")", x.plank(a, b), y.plank(a, b));
                break;
            case 3:
                same("take()", x.take(), y.take());
                break;
            case 4:
                int kind = below(5) - (chance(10) ? 1 : 0);
                int n = chance(5) ? odd() : below(10);
                int f = chance(30) ? random.nextInt() : below(12) - 2;
                int step = chance(30) ? random.nextInt() : below(5) - 2;
                same("sheet(" + kind + ", " + n + ", " + f + ", " + step + ")", x.sheet(kind, n, f, step),
                        y.sheet(kind, n, f, step));
                break;
            case 5:
                int who = someone();
                same("tell(" + who + ")", x.tell(who), y.tell(who));
                break;
            case 6:
                int is = chance(5) ? odd() : below(2);
                same("feast(" + is + ")", x.feast(is), y.feast(is));
                break;
            case 7:
                same("keep(" + k + ")", x.keep(k) ? 1 : 0, y.keep(k) ? 1 : 0);
                break;
            case 8:
                same("again(" + k + ")", x.again(k) ? 1 : 0, y.again(k) ? 1 : 0);
                break;
            case 9:
                same("undo()", x.undo(), y.undo());
                break;
            case 10:
                int where = chance(20) ? -1 : a;
                same("fire(" + where + ")", x.fire(where), y.fire(where));
                break;
            case 11:
                int many = some(60);
                same("minutes(" + many + ")", x.minutes(many), y.minutes(many));
                break;
            default:
                same("minute()", x.minute(), y.minute());
        }
    }

    private void question() {
        int n = some(60);
        int few = some(30);
        int p = someone();
        int q = someone();
        int level = level();
        int other = level();
        int a = netCell(level);
        int b = netCell(level);
        int c = netCell(other);
        int man = one(false);
        int woman = one(true);
        switch (below(22)) {
            case 0: same("met(" + p + ", " + q + ")", x.met(p, q), y.met(p, q)); break;
            case 1: same("ahead(" + n + ")", x.ahead(n), y.ahead(n)); break;
            case 2: same("meet(" + man + ", " + woman + ")", x.meet(man, woman), y.meet(man, woman)); break;
            case 3: same("meet(" + p + ", " + q + ")", x.meet(p, q), y.meet(p, q)); break;
            case 4: same("known()", x.known(), y.known()); break;
            case 5: same("gossip(" + n + ")", x.gossip(n), y.gossip(n)); break;
            case 6: same("pieces(" + level + ")", x.pieces(level), y.pieces(level)); break;
            case 7: same("reach(" + level + ", " + a + ")", x.reach(level, a), y.reach(level, a)); break;
            case 8: same("path(" + level + ", " + a + ", " + b + ")", x.path(level, a, b), y.path(level, a, b)); break;
            case 9: same("both(" + level + ", " + a + ", " + other + ", " + c + ")", x.both(level, a, other, c),
                    y.both(level, a, other, c)); break;
            case 10:
                int from = netCell(0);
                int to = netCell(1);
                same("errand(" + from + ", " + to + ")", x.errand(from, to), y.errand(from, to));
                break;
            case 11: same("tryst(" + man + ", " + woman + ")", x.tryst(man, woman), y.tryst(man, woman)); break;
            case 12: same("open(" + man + ", " + woman + ")", x.open(man, woman), y.open(man, woman)); break;
            case 13: same("part(" + man + ", " + woman + ")", x.part(man, woman), y.part(man, woman)); break;
            case 14:
                int one = netCell(1);
                int two = netCell(1);
                same("planks(" + one + ", " + two + ")", x.planks(one, two), y.planks(one, two));
                break;
            case 15: same("fights(" + n + ")", x.fights(n), y.fights(n)); break;
            case 16: same("saved()", x.saved(), y.saved()); break;
            case 17:
                int s = stair();
                int t = stair();
                same("wardrobe(" + s + ", " + t + ")", x.wardrobe(s, t), y.wardrobe(s, t));
                break;
            case 18: same("flees(" + a + ", " + level + ", " + few + ")", x.flees(a, level, few),
                    y.flees(a, level, few)); break;
            case 19: same("lairs(" + few + ")", x.lairs(few), y.lairs(few)); break;
            case 20: same("caught(" + a + ", " + level + ")", x.caught(a, level), y.caught(a, level)); break;
            default: same("watch(" + a + ", " + level + ", " + c + ", " + other + ")", x.watch(a, level, c, other),
                    y.watch(a, level, c, other));
        }
    }

    private void look() {
        int a = someCell();
        int p = someone();
        int what = chance(5) ? odd() : below(9) - (chance(10) ? 1 : 0);
        int i = chance(5) ? odd() : below(12) - 1;
        switch (below(3)) {
            case 0: same("cell(" + a + ", " + what + ")", mine(0, a, what), theirs(0, a, what)); break;
            case 1: same("person(" + p + ", " + what + ")", mine(1, p, what), theirs(1, p, what)); break;
            default: same("row(" + i + ")", mine(2, i, 0), theirs(2, i, 0));
        }
    }

    private long mine(int which, int i, int what) {
        try {
            return which == 0 ? x.cell(i, what) : which == 1 ? x.person(i, what) : x.row(i);
        } catch (NoSuchElementException e) {
            return THROWN;
        }
    }

    private long theirs(int which, int i, int what) {
        try {
            return which == 0 ? y.cell(i, what) : which == 1 ? y.person(i, what) : y.row(i);
        } catch (NoSuchElementException e) {
            return THROWN;
        }
    }
}
