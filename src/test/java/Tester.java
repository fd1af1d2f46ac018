import java.util.Arrays;
import java.util.NoSuchElementException;

/** What all tests of the project use: calls with the answers that are due. */
final class Tester {
    interface Call {
        int answer();
    }

    private final String name;
    private int right;
    private int wrong;

    Tester(String name) {
        this.name = name;
    }

    void due(String what, long got, long want) {
        if (got == want) {
            right++;
        } else {
            wrong++;
            System.out.println(name + ": " + what + " answered " + got + ", due is " + want);
        }
    }

    void due(String what, boolean got, boolean want) {
        due(what, got ? 1 : 0, want ? 1 : 0);
    }

    /** A call must throw NoSuchElementException. */
    void dueNone(String what, Call call) {
        boolean thrown = false;
        try {
            call.answer();
        } catch (NoSuchElementException e) {
            thrown = true;
        }
        due(what + " throws NoSuchElementException", thrown, true);
    }

    /** The ROW must be just this. */
    void dueRow(String what, WomenByTheRoofs x, int... want) {
        int[] got = rowOf(x);
        if (Arrays.equals(got, want)) {
            right++;
        } else {
            wrong++;
            System.out.println(name + ": the ROW of " + what + " is " + Arrays.toString(got)
                    + ", due is " + Arrays.toString(want));
        }
    }

    /** A refused call: its answer, and all is as it was, the ROW and THE TEXT too. */
    void refused(String what, WomenByTheRoofs x, Call call, int want) {
        String text = "text of " + x.count(12);
        String before = stateOf(x) + Arrays.toString(rowOf(x));
        due(what, call.answer(), want);
        same(what + " changes nothing", stateOf(x) + Arrays.toString(rowOf(x)), before);
        same(what + " leaves the text", "text of " + x.count(12), text);
    }

    /** A refused call that reads THE TEXT: this is empty then, and all else is as it was. */
    void refusedText(String what, WomenByTheRoofs x, String text, Call call, int want) {
        say(x, text);
        String before = stateOf(x) + Arrays.toString(rowOf(x));
        due(what, call.answer(), want);
        same(what + " changes nothing", stateOf(x) + Arrays.toString(rowOf(x)), before);
        due(what + " empties the text", x.count(12), 0);
    }

    /** A question: its answer and ROW; all else is as it was. */
    void asked(String what, WomenByTheRoofs x, Call call, int want, int... row) {
        String text = "text of " + x.count(12);
        String before = stateOf(x);
        due(what, call.answer(), want);
        dueRow(what, x, row);
        same(what + " changes nothing", stateOf(x), before);
        same(what + " leaves the text", "text of " + x.count(12), text);
    }

    void same(String what, String got, String want) {
        if (got.equals(want)) {
            right++;
        } else {
            wrong++;
            System.out.println(name + ": " + what + ": " + got + ", due is " + want);
        }
    }

    /** All that can be looked at but the ROW and THE TEXT. */
    static String stateOf(WomenByTheRoofs x) {
        StringBuilder all = new StringBuilder();
        for (int what = 0; what <= 10; what++) {
            all.append(x.count(what)).append(' ');
        }
        for (int cell = 0; cell < x.count(0); cell++) {
            for (int what = 0; what < 6; what++) {
                all.append(x.cell(cell, what)).append(',');
            }
        }
        for (int one = 0; one < x.count(2); one++) {
            all.append(' ');
            for (int what = 0; what < 8; what++) {
                all.append(x.person(one, what)).append(',');
            }
            for (int other = 0; other < x.count(2); other++) {
                all.append(x.met(one, other)).append(';');
            }
        }
        return all.toString();
    }

    static int[] rowOf(WomenByTheRoofs x) {
        int[] row = new int[x.count(11)];
        for (int i = 0; i < row.length; i++) {
            row[i] = x.row(i);
        }
        return row;
    }

    /** THE TEXT is this then. */
    static void say(WomenByTheRoofs x, String text) {
        x.end(0);
        for (int i = 0; i < text.length(); i += 4) {
            int four = 0;
            for (int k = 0; k < 4; k++) {
                int sign = i + k < text.length() ? text.charAt(i + k) : 0;
                four = four << 8 | sign;
            }
            x.sign(four);
        }
        x.end(text.length());
    }

    static int town(WomenByTheRoofs x, String text) {
        say(x, text);
        return x.town();
    }

    static int folk(WomenByTheRoofs x, String text) {
        say(x, text);
        return x.folk();
    }

    static int rule(WomenByTheRoofs x, String text) {
        say(x, text);
        return x.rule();
    }

    static int route(WomenByTheRoofs x, int person, String text) {
        say(x, text);
        return x.route(person);
    }

    static int evening(WomenByTheRoofs x, String text) {
        say(x, text);
        return x.evening();
    }

    /** A new object with a town and its people. */
    static WomenByTheRoofs made(String town, String folk) {
        WomenByTheRoofs x = new WomenByTheRoofs();
        town(x, town);
        folk(x, folk);
        return x;
    }

    static String repeat(String what, int many) {
        return what.repeat(many);
    }

    void finish() {
        System.out.println(name + ": " + right + " right, " + wrong + " wrong");
        if (wrong != 0) {
            System.exit(1);
        }
    }
}
