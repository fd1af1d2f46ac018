/** Each of the 256 signs at each place of texts of every kind: what can stand there, and where a fault is told. */
public final class SignsTest {
    private static final Tester T = new Tester("SignsTest");
    private static final String TOWN = "s.h.s/.shh./h.s.h";
    private static final String FOLK = "m1:urdlo;w2:l;m11:o";

    private static final String[] TOWNS = {"s", ".h#s", ".h/s#/..", "......", "s/s/s/s/s/s", "hhhhhh/ssssss"};
    private static final String[] FOLKS = {"m0:u", "w0:urdlo", "m11:r;w7:urdlourdl", "w02:o;m5:d;m6:l",
        "m0:o;m0:o;m0:o;m0:o;m0:o",
        "m11:urdlourdl;m11:urdlourdl;m11:urdlourdl;m11:urdlourdl;m11:urdlourdl;m1:rr"};
    private static final String[] RULES = {"9", "123", "m", "-1", "--m", "(m)", "((((k))))", "m+i-w*x/y", "n<10=0",
        "(1<2)=(s>-3)", "-(9-8)*7/(6+5)", "1+1+1+1+1+1+1+1+1+1+1+1+1+1+1+1+1+1+1+1"};
    private static final String[] ROUTES = {"u", "urdlo", "urdlourdl", "lo"};
    private static final String[] EVENINGS = {"m1", "m07;x", "na;nh;f;f", "p0-2;x", "p02-11;m60;m61", "f;m1;nb",
        "m1;m1;m1;m1;m1;m1;m1;m1;m1;m1;m1;m1;m1;m1;m1;m1;m1;m1;m1;f"};

    public static void main(String[] args) {
        behindThings();
        inFrontOfThings();
        String[][] all = {TOWNS, FOLKS, RULES, ROUTES, EVENINGS};
        for (int kind = 0; kind < all.length; kind++) {
            for (String text : all[kind]) {
                everywhere(kind, text);
            }
        }
        T.finish();
    }

    private static int rule(String text) {
        return Tester.rule(new WomenByTheRoofs(), text);
    }

    /** What ends a thing can stand behind it but for a bracket that closes none; all else can't. */
    private static void behindThings() {
        String[] things = {"9", "99", "999", "m", "-k", "(1)", "(-(n))"};
        for (String thing : things) {
            boolean longer = thing.equals("9") || thing.equals("99");
            for (char sign = 0; sign < 256; sign++) {
                boolean joins = "<>=+-*/".indexOf(sign) >= 0;
                boolean stands = joins || longer && sign >= '0' && sign <= '9';
                int p = thing.length();
                T.due("6 behind " + thing + " the sign " + (int) sign, rule(thing + sign + (joins ? "7" : "")),
                        stands ? 0 : -1 - p);
                T.due("6 in brackets behind " + thing + " the sign " + (int) sign, rule("(" + thing + sign + "?"),
                        stands || sign == ')' ? -3 - p : -2 - p);
            }
        }
    }

    private static void inFrontOfThings() {
        for (char sign = 0; sign < 256; sign++) {
            boolean begins = sign >= '0' && sign <= '9' || "miwxynsk-(".indexOf(sign) >= 0;
            for (String front : new String[] {"", "-", "(", "1+", "m<", "--", "2*("}) {
                int p = front.length();
                T.due("6 behind " + front + " the sign " + (int) sign, rule(front + sign + "?"),
                        begins ? -2 - p : -1 - p);
            }
        }
    }

    private static void everywhere(int kind, String text) {
        for (int at = 0; at <= text.length(); at++) {
            for (char sign = 0; sign < 256; sign++) {
                String front = text.substring(0, at);
                beside(kind, front + sign + text.substring(at));
                if (at < text.length()) {
                    beside(kind, front + sign + text.substring(at + 1));
                }
            }
        }
    }

    /** The class must answer what Plain does. */
    private static void beside(int kind, String text) {
        WomenByTheRoofs x = new WomenByTheRoofs();
        Plain y = new Plain();
        say(x, y, TOWN);
        x.town();
        y.town();
        say(x, y, kind == 1 ? "" : FOLK);
        x.folk();
        y.folk();
        say(x, y, text);
        int got = kind == 0 ? x.town() : kind == 1 ? x.folk() : kind == 2 ? x.rule() : kind == 3 ? x.route(0)
                : x.evening();
        int want = kind == 0 ? y.town() : kind == 1 ? y.folk() : kind == 2 ? y.rule() : kind == 3 ? y.route(0)
                : y.evening();
        if (got != want) {
            T.due("a text of kind " + kind + ", " + shown(text), got, want);
        }
        for (int what = 0; what < 13; what++) {
            if (x.count(what) != y.count(what)) {
                T.due("count(" + what + ") behind " + shown(text), x.count(what), y.count(what));
            }
        }
        for (int person = 0; person < y.count(2); person++) {
            if (x.person(person, 7) != y.person(person, 7)) {
                T.due("who goes by " + shown(text), x.person(person, 7), y.person(person, 7));
            }
        }
    }

    private static void say(WomenByTheRoofs x, Plain y, String text) {
        x.end(0);
        y.end(0);
        for (int i = 0; i < text.length(); i += 4) {
            int four = 0;
            for (int k = i; k < i + 4; k++) {
                four = four << 8 | (k < text.length() ? text.charAt(k) : 0);
            }
            x.sign(four);
            y.sign(four);
        }
        x.end(text.length());
        y.end(text.length());
    }

    /** A text with its odd signs as numbers. */
    private static String shown(String text) {
        StringBuilder shown = new StringBuilder();
        for (char sign : text.toCharArray()) {
            shown.append(sign > ' ' && sign < 127 ? String.valueOf(sign) : "[" + (int) sign + "]");
        }
        return shown.toString();
    }
}
