import java.io.IOException;
import java.nio.file.Files;
import java.nio.file.Path;
import java.util.NoSuchElementException;
import java.util.regex.Matcher;
import java.util.regex.Pattern;

/** The calls that README.md shows answer what it says of them: its lines are read and called one by one. */
public final class ReadmeTest {
    private static final Tester T = new Tester("ReadmeTest");
    private static final Pattern SAID = Pattern.compile("say\\(x, \"([^\"]*)\"\\);");
    private static final Pattern CALLED = Pattern.compile("x\\.(\\w+)\\(([^)]*)\\);\\s*// ([^:]*?)(?::.*)?");
    private static final Pattern ROW = Pattern.compile(".*; ROW ([-0-9 ]+):.*");

    public static void main(String[] args) throws IOException {
        WomenByTheRoofs x = new WomenByTheRoofs();
        int calls = 0;
        for (String line : Files.readAllLines(Path.of("README.md"))) {
            Matcher said = SAID.matcher(line);
            Matcher called = CALLED.matcher(line);
            if (said.matches()) {
                Tester.say(x, said.group(1));
            } else if (called.matches()) {
                calls++;
                due(x, line, called);
            }
        }
        T.due("so many calls are shown", calls, 13);
        T.finish();
    }

    private static void due(WomenByTheRoofs x, String line, Matcher called) {
        String[] told = called.group(2).split(", ");
        int[] with = new int[3];
        for (int i = 0; i < told.length && !called.group(2).isEmpty(); i++) {
            with[i] = Integer.parseInt(told[i]);
        }
        T.same(line, answer(x, called.group(1), with), called.group(3));
        Matcher row = ROW.matcher(line);
        if (row.matches()) {
            String[] numbers = row.group(1).split(" ");
            int[] want = new int[numbers.length];
            for (int i = 0; i < want.length; i++) {
                want[i] = Integer.parseInt(numbers[i]);
            }
            T.dueRow(line, x, want);
        }
    }

    private static String answer(WomenByTheRoofs x, String name, int[] with) {
        try {
            return String.valueOf(call(x, name, with));
        } catch (NoSuchElementException e) {
            return "throws NoSuchElementException";
        }
    }

    private static int call(WomenByTheRoofs x, String name, int[] with) {
        switch (name) {
            case "town": return x.town();
            case "folk": return x.folk();
            case "tryst": return x.tryst(with[0], with[1]);
            case "tell": return x.tell(with[0]);
            case "minute": return x.minute();
            case "minutes": return x.minutes(with[0]);
            case "undo": return x.undo();
            case "path": return x.path(with[0], with[1], with[2]);
            case "reach": return x.reach(with[0], with[1]);
            case "rule": return x.rule();
            case "evening": return x.evening();
            case "cell": return x.cell(with[0], with[1]);
            default: throw new IllegalArgumentException(name);
        }
    }
}
