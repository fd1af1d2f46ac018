import java.util.ArrayDeque;
import java.util.ArrayList;
import java.util.Arrays;
import java.util.Collections;
import java.util.Comparator;
import java.util.Deque;
import java.util.HashMap;
import java.util.List;
import java.util.Map;
import java.util.NoSuchElementException;
import java.util.PriorityQueue;
import java.util.TreeSet;
import java.util.regex.Matcher;
import java.util.regex.Pattern;

/**
 * The document once more, written slowly and by other means (the library's collections, patterns, blunt
 * searches), for SoakTest to lay beside the class.
 */
final class Plain {
    /** All that undo() and again() bring back. */
    private static final class State {
        int now;
        int[] at = new int[8];
        int[] level = new int[8];
        int[] place = new int[8];
        TreeSet<Integer> news = new TreeSet<>();
        Map<List<Integer>, Integer> met = new HashMap<>();
        List<int[]> planks = new ArrayList<>();
        boolean feast;

        State twin() {
            State s = new State();
            s.now = now;
            s.at = at.clone();
            s.level = level.clone();
            s.place = place.clone();
            s.news = new TreeSet<>(news);
            s.met = new HashMap<>(met);
            s.planks = new ArrayList<>(planks);
            s.feast = feast;
            return s;
        }
    }

    private record Person(boolean woman, String route) {
    }

    private static final int[] DX = {0, 1, 0, -1, 0};
    private static final int[] DY = {-1, 0, 1, 0, 0};

    private String text = "";
    private char[][] map = {{'s'}};
    private List<Person> people = new ArrayList<>();
    private String rule = "";
    private int fire = -1;
    private State state = new State();
    private final Deque<State> past = new ArrayDeque<>();
    private final State[] kept = new State[2];
    private List<Integer> row = new ArrayList<>();
    private int stepped;
    private int got;

    // ---- the map

    private int wide() {
        return map[0].length;
    }

    private int size() {
        return map.length * wide();
    }

    private boolean isCell(int c) {
        return c >= 0 && c < size();
    }

    private char sign(char[][] m, int c) {
        return m[c / m[0].length][c % m[0].length];
    }

    private boolean inNet(char[][] m, int level, int c) {
        return c >= 0 && c < m.length * m[0].length && (level == 0 || level == 1)
                && (level == 0 ? ".s" : "hs").indexOf(sign(m, c)) >= 0;
    }

    private boolean inNet(int level, int c) {
        return inNet(map, level, c);
    }

    private boolean stair(char[][] m, int c) {
        return inNet(m, 0, c) && inNet(m, 1, c);
    }

    private int besideOn(char[][] m, int c, int d) {
        int x = c % m[0].length + DX[d];
        int y = c / m[0].length + DY[d];
        return x < 0 || y < 0 || x >= m[0].length || y >= m.length ? -1 : y * m[0].length + x;
    }

    /** Where a step of a net leads, or -1. */
    private int go(char[][] m, List<int[]> planks, int level, int c, int d) {
        if (d == 4) {
            return c;
        }
        int n = besideOn(m, c, d);
        if (n >= 0 && inNet(m, level, c) && inNet(m, level, n)) {
            return n;
        }
        if (level == 1 && n >= 0) {
            int nn = besideOn(m, n, d);
            for (int[] p : planks) {
                if (nn >= 0 && (p[0] == c && p[1] == nn || p[1] == c && p[0] == nn)) {
                    return nn;
                }
            }
        }
        return -1;
    }

    private int go(int level, int c, int d) {
        return go(map, state.planks, level, c, d);
    }

    /** Steps from a cell to all others of its net. */
    private Map<Integer, Integer> far(char[][] m, int level, int from) {
        Map<Integer, Integer> far = new HashMap<>();
        Deque<Integer> queue = new ArrayDeque<>();
        far.put(from, 0);
        queue.add(from);
        while (!queue.isEmpty()) {
            int c = queue.remove();
            for (int d = 0; d < 4; d++) {
                int n = go(m, state.planks, level, c, d);
                if (n >= 0 && !far.containsKey(n)) {
                    far.put(n, far.get(c) + 1);
                    queue.add(n);
                }
            }
        }
        return far;
    }

    private void tellRow(Integer... numbers) {
        row = new ArrayList<>(Arrays.asList(numbers));
    }

    private static int low(Iterable<Integer> cells) {
        int bits = 0;
        for (int c : cells) {
            bits |= c < 18 ? 1 << c : 0;
        }
        return bits;
    }

    private static int high(Iterable<Integer> cells) {
        int bits = 0;
        for (int c : cells) {
            bits |= c >= 18 ? 1 << c - 18 : 0;
        }
        return bits;
    }

    private static int bits(Iterable<Integer> some) {
        int bits = 0;
        for (int i : some) {
            bits |= 1 << i;
        }
        return bits;
    }

    // ---- texts

    int sign(int v) {
        if (text.length() + 4 > 80) {
            return -1;
        }
        for (int shift = 24; shift >= 0; shift -= 8) {
            text += (char) (v >>> shift & 255);
        }
        return text.length();
    }

    boolean end(int n) {
        if (n < 0 || n > text.length()) {
            return false;
        }
        text = text.substring(0, n);
        return true;
    }

    private String read() {
        String told = text;
        text = "";
        return told;
    }

    /** Where a text leaves a pattern, or -1. */
    private static int fault(Pattern pattern, String told) {
        for (int n = 1; n <= told.length(); n++) {
            Matcher m = pattern.matcher(told.substring(0, n));
            if (!m.matches() && !m.hitEnd()) {
                return n - 1;
            }
        }
        return pattern.matcher(told).matches() ? -1 : told.length();
    }

    /** The same of a text with a limit. */
    private static int fault(Pattern pattern, String told, int most) {
        if (told.length() <= most) {
            return fault(pattern, told);
        }
        int p = fault(pattern, told.substring(0, most));
        return p < 0 || p > most ? most : p;
    }

    int town() {
        String told = read();
        int first = told.indexOf('/') < 0 ? told.length() : told.indexOf('/');
        int width = Math.min(first, 6);
        String line = "[.hs#]{" + Math.max(width, 1) + "}";
        int p = fault(Pattern.compile(line + "(/" + line + "){0,5}"), told);
        if (p < 0) {
            String[] lines = told.split("/");
            map = new char[lines.length][];
            for (int y = 0; y < lines.length; y++) {
                map[y] = lines[y].toCharArray();
            }
            people = new ArrayList<>();
            state = new State();
            past.clear();
            Arrays.fill(kept, null);
            fire = -1;
            return size();
        }
        String upTo = told.substring(0, p);
        boolean sixRows = upTo.chars().filter(c -> c == '/').count() == 5;
        boolean slash = p < told.length() && told.charAt(p) == '/';
        boolean fullRow = p - upTo.lastIndexOf('/') - 1 == width;
        // a / behind the sixth row is not what can't stand there: the seventh row's first sign is
        return -1 - (sixRows && slash && fullRow ? p + 1 : p);
    }

    private static final String LINE = "[mw][0-9]{1,2}:[urdlo]{1,9}";
    private static final Pattern FOLK = Pattern.compile(LINE + "(;" + LINE + ")*");
    private static final Pattern CELL = Pattern.compile("(?:^|;)(.?)([0-9]{0,2})");

    int folk() {
        String told = read();
        if (told.isEmpty()) {
            return 0;
        }
        int p = fault(FOLK, told, 76);
        String counts = told.length() > 76 ? told.substring(0, 76) : told;
        int lines = 0;
        Matcher m = CELL.matcher(counts);
        while (m.find()) {
            lines++;
            int lineAt = m.start(1);
            if (people.size() + lines > 8 && (p < 0 || lineAt < p)) {
                p = lineAt;
            }
            if (!m.group(2).isEmpty()) {
                int level = m.group(1).equals("w") ? 1 : 0;
                boolean good = inNet(level, Integer.parseInt(m.group(2)));
                boolean cut = m.end(2) == 76 && told.length() > 76 && m.group(2).length() == 1;
                for (int d = 0; d < 10 && cut; d++) {
                    good |= inNet(level, Integer.parseInt(m.group(2) + d));
                }
                if (!good && (p < 0 || m.end(2) - 1 < p)) {
                    p = m.end(2) - 1;
                }
            }
        }
        if (p >= 0) {
            return -1 - p;
        }
        for (String line : told.split(";")) {
            String[] parts = line.split(":");
            int who = people.size();
            people.add(new Person(line.charAt(0) == 'w', parts[1]));
            state.at[who] = Integer.parseInt(parts[0].substring(1));
            state.level[who] = line.charAt(0) == 'w' ? 1 : 0;
            state.place[who] = 0;
        }
        past.clear();
        Arrays.fill(kept, null);
        return lines;
    }

    private static Pattern rulePattern() {
        String thing = "-*([0-9]{1,3}|[miwxynsk])";
        for (int i = 0; i < 4; i++) {
            thing = "-*([0-9]{1,3}|[miwxynsk]|\\(" + expression(thing) + "\\))";
        }
        return Pattern.compile(expression(thing));
    }

    private static String expression(String thing) {
        String sum = thing + "([-+*/]" + thing + ")*";
        return sum + "([<>=]" + sum + ")?";
    }

    private static final Pattern RULE = rulePattern();

    int rule() {
        String told = read();
        int p = told.isEmpty() ? -1 : fault(RULE, told, 40);
        if (p >= 0) {
            return -1 - p;
        }
        rule = told;
        return 0;
    }

    int route(int person) {
        String told = read();
        if (person < 0 || person >= people.size()) {
            return -100;
        }
        int p = fault(Pattern.compile("[urdlo]{1,9}"), told);
        if (p >= 0) {
            return -1 - p;
        }
        people.set(person, new Person(people.get(person).woman, told));
        state.place[person] = 0;
        past.clear();
        Arrays.fill(kept, null);
        return told.length();
    }

    // ---- the rule's value, read anew each time

    private final class Reader {
        private final State s;
        private final int who;
        private int p;

        Reader(State s, int who) {
            this.s = s;
            this.who = who;
        }

        private char next() {
            return p < rule.length() ? rule.charAt(p) : '.';
        }

        int compared() {
            int left = sum();
            char c = next();
            if ("<>=".indexOf(c) < 0) {
                return left;
            }
            p++;
            int right = sum();
            return (c == '<' ? left < right : c == '>' ? left > right : left == right) ? 1 : 0;
        }

        private int sum() {
            int value = product();
            while (next() == '+' || next() == '-') {
                char c = rule.charAt(p++);
                int right = product();
                value = c == '+' ? value + right : value - right;
            }
            return value;
        }

        private int product() {
            int value = thing();
            while (next() == '*' || next() == '/') {
                char c = rule.charAt(p++);
                int right = thing();
                value = c == '*' ? value * right : right == 0 ? 0 : (int) ((long) value / right);
            }
            return value;
        }

        private int thing() {
            char c = rule.charAt(p++);
            if (c == '-') {
                return -thing();
            }
            if (c == '(') {
                int value = compared();
                p++;
                return value;
            }
            if (Character.isDigit(c)) {
                int value = c - '0';
                while (Character.isDigit(next())) {
                    value = value * 10 + rule.charAt(p++) - '0';
                }
                return value;
            }
            return letter(c);
        }

        private int letter(char c) {
            int cell = s.at[who];
            switch (c) {
                case 'm': return s.now;
                case 'i': return who;
                case 'w': return people.get(who).woman ? 1 : 0;
                case 'x': return cell % wide();
                case 'y': return cell / wide();
                case 's': return stair(map, cell) ? 1 : 0;
                case 'k': return s.news.contains(who) ? 1 : 0;
                default:
                    int others = 0;
                    for (int i = 0; i < people.size(); i++) {
                        others += i != who && s.at[i] == cell && s.level[i] == s.level[who] ? 1 : 0;
                    }
                    return others;
            }
        }
    }

    private boolean goes(State s, int who) {
        if (s.feast && people.get(who).woman && s.level[who] == 1) {
            return false;
        }
        return rule.isEmpty() || new Reader(s, who).compared() != 0;
    }

    // ---- the town

    int cell(int cell, int what) {
        if (!isCell(cell) || what < 0 || what > 5) {
            throw new NoSuchElementException();
        }
        TreeSet<Integer> found = new TreeSet<>();
        switch (what) {
            case 0:
                return "#.hs".indexOf(sign(map, cell));
            case 1:
            case 2:
                for (int i = 0; i < people.size(); i++) {
                    if (state.at[i] == cell && state.level[i] == what - 1) {
                        found.add(i);
                    }
                }
                return bits(found);
            case 3:
                for (int i = 0; i < state.planks.size(); i++) {
                    if (state.planks.get(i)[0] == cell || state.planks.get(i)[1] == cell) {
                        found.add(i);
                    }
                }
                return bits(found);
            default:
                for (int d = 0; d < 4; d++) {
                    if (go(what - 4, cell, d) >= 0) {
                        found.add(d);
                    }
                }
                return found.size();
        }
    }

    int person(int person, int what) {
        if (person < 0 || person >= people.size() || what < 0 || what > 7) {
            throw new NoSuchElementException();
        }
        switch (what) {
            case 0: return people.get(person).woman ? 1 : 0;
            case 1: return state.at[person];
            case 2: return state.level[person];
            case 3: return state.place[person];
            case 4: return people.get(person).route.length();
            case 5: return state.news.contains(person) ? 1 : 0;
            case 6:
                int sum = 0;
                for (Map.Entry<List<Integer>, Integer> e : state.met.entrySet()) {
                    sum += e.getKey().contains(person) ? e.getValue() : 0;
                }
                return sum;
            default: return goes(state, person) ? 1 : 0;
        }
    }

    private int middle(int one, int other) {
        for (int d = 0; d < 4; d++) {
            int n = besideOn(map, one, d);
            if (n >= 0 && besideOn(map, n, d) == other) {
                return n;
            }
        }
        return -1;
    }

    int build(int cell, int what) {
        if (!isCell(cell) || what < 0 || what > 3) {
            return -1;
        }
        char[][] m = changed(cell, "#.hs".charAt(what));
        for (int i = 0; i < people.size(); i++) {
            if (!inNet(m, state.level[i], state.at[i])) {
                return -1;
            }
        }
        for (int[] p : state.planks) {
            if (!inNet(m, 1, p[0]) || !inNet(m, 1, p[1]) || inNet(m, 1, middle(p[0], p[1]))) {
                return -1;
            }
        }
        int was = cell(cell, 0);
        map = m;
        past.clear();
        Arrays.fill(kept, null);
        return was;
    }

    private char[][] changed(int cell, char to) {
        char[][] m = new char[map.length][];
        for (int y = 0; y < map.length; y++) {
            m[y] = map[y].clone();
        }
        m[cell / wide()][cell % wide()] = to;
        return m;
    }

    private void remember(State was) {
        past.addLast(was);
        if (past.size() > 12) {
            past.removeFirst();
        }
    }

    private int lay(int one, int other) {
        if (!isCell(one) || !isCell(other)) {
            return -1;
        }
        int mid = middle(one, other);
        if (mid < 0 || !inNet(1, one) || !inNet(1, other) || inNet(1, mid)) {
            return -2;
        }
        for (int[] p : state.planks) {
            if (p[0] == one && p[1] == other || p[0] == other && p[1] == one) {
                return -3;
            }
        }
        if (state.planks.size() == 6) {
            return -4;
        }
        state.planks.add(new int[] {one, other});
        return state.planks.size() - 1;
    }

    int plank(int one, int other) {
        State was = state.twin();
        int answer = lay(one, other);
        if (answer >= 0) {
            remember(was);
        }
        return answer;
    }

    int take() {
        if (state.planks.isEmpty()) {
            return -1;
        }
        remember(state.twin());
        state.planks.remove(state.planks.size() - 1);
        return state.planks.size();
    }

    int sheet(int kind, int n, int f, int step) {
        if (kind < 0 || kind > 3 || n > 8) {
            return -1;
        }
        if (kind < 3 && n < 0) {
            return -2;
        }
        int sum = 0;
        int entry = f;
        for (int i = 0; i < people.size(); i++) {
            int last = people.get(i).route.length() - 1;
            int value = kind == 0 ? (byte) entry : kind == 1 ? (short) entry : entry;
            state.place[i] = kind == 3 || i >= n || value < 0 ? 0 : Math.min(value, last);
            sum += state.place[i];
            entry += step;
        }
        return kind == 3 ? -3 : sum;
    }

    // ---- minutes

    int tell(int person) {
        if (person < 0 || person >= people.size() || state.news.contains(person)) {
            return -1;
        }
        remember(state.twin());
        state.news.add(person);
        return state.news.size();
    }

    private boolean turn(boolean is) {
        if (state.feast == is) {
            return false;
        }
        for (int i = 0; i < people.size(); i++) {
            if (!is && people.get(i).woman && state.level[i] == 0 && !stair(map, state.at[i])) {
                return false;
            }
        }
        state.feast = is;
        for (int i = 0; i < people.size(); i++) {
            if (people.get(i).woman && stair(map, state.at[i])) {
                state.level[i] = is ? 0 : 1;
            }
        }
        return true;
    }

    int feast(int is) {
        State was = state.twin();
        if (is != 0 && is != 1 || !turn(is == 1)) {
            return -1;
        }
        remember(was);
        int below = 0;
        for (int i = 0; i < people.size(); i++) {
            below += people.get(i).woman && state.level[i] == 0 ? 1 : 0;
        }
        return below;
    }

    private int pass(State s) {
        stepped = 0;
        for (int i = 0; i < people.size(); i++) {
            if (goes(s, i)) {
                String way = people.get(i).route;
                int n = go(map, s.planks, s.level[i], s.at[i], "urdlo".indexOf(way.charAt(s.place[i])));
                if (n >= 0 && n != s.at[i]) {
                    s.at[i] = n;
                    stepped |= 1 << i;
                }
                s.place[i] = (s.place[i] + 1) % way.length();
            }
        }
        int meetings = 0;
        for (int i = 0; i < people.size(); i++) {
            for (int k = 0; k < people.size(); k++) {
                if (!people.get(i).woman && people.get(k).woman && s.at[i] == s.at[k] && stair(map, s.at[i])) {
                    s.met.merge(List.of(i, k), 1, Integer::sum);
                    meetings++;
                }
            }
        }
        TreeSet<Integer> had = new TreeSet<>(s.news);
        for (int i : had) {
            for (int k = 0; k < people.size(); k++) {
                boolean sameCell = s.at[i] == s.at[k];
                boolean dropped = false;
                for (int d = 0; d < 4; d++) {
                    dropped |= s.level[i] == 1 && s.level[k] == 0 && besideOn(map, s.at[i], d) == s.at[k];
                }
                if (sameCell && (s.level[i] == s.level[k] || stair(map, s.at[i])) || dropped) {
                    s.news.add(k);
                }
            }
        }
        got = bits(s.news) & ~bits(had);
        s.now++;
        return meetings;
    }

    int minute() {
        remember(state.twin());
        int meetings = pass(state);
        tellRow(stepped, got);
        return meetings;
    }

    int minutes(int n) {
        if (n < 0 || n > 60) {
            return -1;
        }
        if (n > 0) {
            remember(state.twin());
        }
        int meetings = 0;
        int steps = 0;
        for (int i = 0; i < n; i++) {
            meetings += pass(state);
            steps += Integer.bitCount(stepped);
        }
        tellRow(steps, bits(state.news));
        return meetings;
    }

    private static final String ACT = "(m[0-9]{1,2}|n[a-h]|p[0-9]{1,2}-[0-9]{1,2}|x|f)";
    private static final Pattern EVENING = Pattern.compile(ACT + "(;" + ACT + ")*");
    private int eveningMeetings;

    private boolean act(String act) {
        String rest = act.substring(1);
        switch (act.charAt(0)) {
            case 'm':
                for (int i = 0; i < Integer.parseInt(rest) && Integer.parseInt(rest) <= 60; i++) {
                    eveningMeetings += pass(state);
                }
                return Integer.parseInt(rest) <= 60;
            case 'n':
                return rest.charAt(0) - 'a' < people.size() && state.news.add(rest.charAt(0) - 'a');
            case 'p':
                return lay(Integer.parseInt(rest.split("-")[0]), Integer.parseInt(rest.split("-")[1])) >= 0;
            case 'x':
                return !state.planks.isEmpty() && state.planks.remove(state.planks.size() - 1) != null;
            default:
                return turn(!state.feast);
        }
    }

    int evening() {
        String told = read();
        int p = told.isEmpty() ? -1 : fault(EVENING, told, 60);
        if (p >= 0) {
            return -1 - p;
        }
        State was = state.twin();
        eveningMeetings = 0;
        int done = 0;
        boolean failed = false;
        for (String act : told.isEmpty() ? new String[0] : told.split(";")) {
            if (!failed && act(act)) {
                done++;
            } else {
                failed = true;
            }
        }
        if (done > 0) {
            remember(was);
        }
        tellRow(failed ? 1 : 0, eveningMeetings);
        return done;
    }

    int undo() {
        if (past.isEmpty()) {
            return -1;
        }
        state = past.removeLast();
        return past.size();
    }

    private boolean two(int one, int other) {
        return one >= 0 && other >= 0 && one < people.size() && other < people.size() && one != other;
    }

    int met(int one, int other) {
        if (!two(one, other)) {
            return -1;
        }
        return state.met.getOrDefault(List.of(one, other), 0) + state.met.getOrDefault(List.of(other, one), 0);
    }

    // ---- minutes to come

    int ahead(int n) {
        if (n < 0 || n > 60) {
            return -1;
        }
        State s = state.twin();
        int meetings = 0;
        for (int i = 0; i < n; i++) {
            meetings += pass(s);
        }
        tellRow();
        for (int i = 0; i < people.size(); i++) {
            row.add(s.at[i]);
        }
        return meetings;
    }

    int meet(int one, int other) {
        if (!two(one, other)) {
            return -1;
        }
        State s = state.twin();
        s.met.clear();
        for (int t = 1; t <= 60; t++) {
            pass(s);
            if (s.met.containsKey(List.of(one, other)) || s.met.containsKey(List.of(other, one))) {
                tellRow(s.at[one]);
                return t;
            }
        }
        return -2;
    }

    int known() {
        State s = state.twin();
        for (int t = 0; t <= 60; t++) {
            if (s.news.size() == people.size()) {
                tellRow(bits(s.news));
                return t;
            }
            if (t < 60) {
                pass(s);
            }
        }
        tellRow(bits(s.news));
        return -2;
    }

    int gossip(int n) {
        if (n < 0 || n > 60) {
            return -2;
        }
        int best = -1;
        int most = -1;
        for (int who = -1; who < people.size(); who++) {
            State s = state.twin();
            if (who >= 0) {
                s.news.add(who);
            }
            for (int i = 0; i < n; i++) {
                pass(s);
            }
            if (s.news.size() > most) {
                most = s.news.size();
                best = who;
            }
        }
        tellRow(most);
        return best;
    }

    // ---- nets

    int pieces(int level) {
        if (level != 0 && level != 1) {
            return -1;
        }
        TreeSet<Integer> seen = new TreeSet<>();
        int many = 0;
        tellRow(0, -1);
        for (int c = 0; c < size(); c++) {
            if (inNet(level, c) && !seen.contains(c)) {
                Map<Integer, Integer> piece = far(map, level, c);
                seen.addAll(piece.keySet());
                many++;
                if (piece.size() > row.get(0)) {
                    tellRow(piece.size(), c);
                }
            }
        }
        return many;
    }

    int reach(int level, int cell) {
        if (level != 0 && level != 1 || !isCell(cell)) {
            return -1;
        }
        if (!inNet(level, cell)) {
            return -2;
        }
        Map<Integer, Integer> far = far(map, level, cell);
        tellRow(low(far.keySet()), high(far.keySet()));
        return far.size();
    }

    private static int compare(List<Integer> a, List<Integer> b) {
        for (int i = 0; i < Math.min(a.size(), b.size()); i++) {
            if (!a.get(i).equals(b.get(i))) {
                return a.get(i) - b.get(i);
            }
        }
        return a.size() - b.size();
    }

    private static List<Integer> with(List<Integer> list, int more) {
        List<Integer> longer = new ArrayList<>(list);
        longer.add(more);
        return longer;
    }

    int path(int level, int from, int to) {
        if (!inNet(level, from) || !inNet(level, to)) {
            return -1;
        }
        Map<Integer, List<Integer>> best = new HashMap<>();
        Map<Integer, List<Integer>> front = new HashMap<>();
        front.put(from, new ArrayList<>());
        best.putAll(front);
        while (!front.isEmpty() && !best.containsKey(to)) {
            Map<Integer, List<Integer>> next = new HashMap<>();
            for (Map.Entry<Integer, List<Integer>> e : front.entrySet()) {
                for (int d = 0; d < 4; d++) {
                    int n = go(level, e.getKey(), d);
                    if (n >= 0 && !best.containsKey(n)) {
                        next.merge(n, with(e.getValue(), d), (a, b) -> compare(a, b) <= 0 ? a : b);
                    }
                }
            }
            best.putAll(next);
            front = next;
        }
        List<Integer> way = best.get(to);
        if (way == null) {
            return -2;
        }
        row = new ArrayList<>(way.subList(0, Math.min(10, way.size())));
        return way.size();
    }

    int both(int level, int from, int levelTo, int to) {
        if (!inNet(level, from) || !inNet(levelTo, to)) {
            return -1;
        }
        Comparator<int[]> order = Comparator.<int[]>comparingInt(a -> a[0]).thenComparingInt(a -> a[1]);
        PriorityQueue<int[]> queue = new PriorityQueue<>(order);
        queue.add(new int[] {0, 0, level, from});
        TreeSet<Integer> done = new TreeSet<>();
        while (!queue.isEmpty()) {
            int[] e = queue.remove();
            if (!done.add(e[2] * 100 + e[3])) {
                continue;
            }
            if (e[2] == levelTo && e[3] == to) {
                tellRow(e[1]);
                return e[0];
            }
            if (stair(map, e[3])) {
                queue.add(new int[] {e[0], e[1], 1 - e[2], e[3]});
            }
            for (int d = 0; d < 4; d++) {
                int n = go(e[2], e[3], d);
                if (n >= 0) {
                    queue.add(new int[] {e[0] + 1, e[1] + e[2], e[2], n});
                }
            }
        }
        return -2;
    }

    int errand(int from, int to) {
        if (!inNet(0, from) || !inNet(1, to)) {
            return -1;
        }
        List<List<Integer>> ways = new ArrayList<>();
        for (int man = 0; man < people.size(); man++) {
            for (int woman = 0; woman < people.size(); woman++) {
                for (int stair = 0; stair < size(); stair++) {
                    if (people.get(man).woman || !people.get(woman).woman || state.level[woman] != 1
                            || !stair(map, stair)) {
                        continue;
                    }
                    Integer a = far(map, 0, state.at[man]).get(from);
                    Integer b = far(map, 0, from).get(stair);
                    Integer c = far(map, 1, state.at[woman]).get(stair);
                    Integer d = far(map, 1, stair).get(to);
                    if (a != null && b != null && c != null && d != null) {
                        ways.add(List.of(Math.max(a + b, c) + d, man, woman, stair));
                    }
                }
            }
        }
        if (ways.isEmpty()) {
            return -2;
        }
        List<Integer> best = Collections.min(ways, Plain::compare);
        tellRow(best.get(1), best.get(2), best.get(3));
        return best.get(0);
    }

    private boolean couple(int man, int woman) {
        return two(man, woman) && !people.get(man).woman && people.get(woman).woman;
    }

    /** When and where two tryst on a map, or null. */
    private List<Integer> tryst(char[][] m, int man, int woman) {
        Map<Integer, Integer> his = far(m, state.level[man], state.at[man]);
        Map<Integer, Integer> hers = far(m, state.level[woman], state.at[woman]);
        List<Integer> best = null;
        for (int c = 0; c < size(); c++) {
            if (stair(m, c) && his.containsKey(c) && hers.containsKey(c)) {
                List<Integer> one = List.of(Math.max(his.get(c), hers.get(c)), c);
                best = best == null || compare(one, best) < 0 ? one : best;
            }
        }
        return best;
    }

    int tryst(int man, int woman) {
        if (!couple(man, woman)) {
            return -1;
        }
        List<Integer> best = tryst(map, man, woman);
        if (best == null) {
            return -2;
        }
        tellRow(best.get(0));
        return best.get(1);
    }

    int open(int man, int woman) {
        if (!couple(man, woman)) {
            return -1;
        }
        int best = -1;
        int soonest = 1000;
        for (int c = 0; c < size(); c++) {
            boolean under = false;
            for (int[] p : state.planks) {
                under |= middle(p[0], p[1]) == c;
            }
            List<Integer> then = sign(map, c) == '.' && !under || sign(map, c) == 'h'
                    ? tryst(changed(c, 's'), man, woman) : null;
            if (then != null && then.get(0) < soonest) {
                soonest = then.get(0);
                best = c;
            }
        }
        if (best < 0) {
            return -2;
        }
        tellRow(soonest);
        return best;
    }

    int part(int man, int woman) {
        if (!couple(man, woman)) {
            return -1;
        }
        List<Integer> stairs = new ArrayList<>();
        for (int c = 0; c < size(); c++) {
            if (stair(map, c) && c != state.at[man] && c != state.at[woman]) {
                stairs.add(c);
            }
        }
        List<List<Integer>> sets = new ArrayList<>();
        sets.add(new ArrayList<>());
        for (int many = 0; many <= 3; many++) {
            List<List<Integer>> longer = new ArrayList<>();
            for (List<Integer> set : sets) {
                char[][] was = map;
                for (int c : set) {
                    map = changed(c, 'h');
                }
                boolean parted = tryst(map, man, woman) == null;
                map = was;
                if (parted) {
                    row = new ArrayList<>(set);
                    return many;
                }
                for (int c : stairs) {
                    if (set.isEmpty() || c > set.get(set.size() - 1)) {
                        longer.add(with(set, c));
                    }
                }
            }
            sets = longer;
        }
        return -2;
    }

    int planks(int from, int to) {
        if (!inNet(1, from) || !inNet(1, to)) {
            return -1;
        }
        Comparator<int[]> order = Comparator.<int[]>comparingInt(a -> a[0]).thenComparingInt(a -> a[1]);
        PriorityQueue<int[]> queue = new PriorityQueue<>(order);
        queue.add(new int[] {0, 0, from});
        TreeSet<Integer> done = new TreeSet<>();
        while (!queue.isEmpty()) {
            int[] e = queue.remove();
            if (!done.add(e[2])) {
                continue;
            }
            if (e[2] == to) {
                tellRow(e[1]);
                return e[0];
            }
            for (int d = 0; d < 4; d++) {
                int n = go(1, e[2], d);
                if (n >= 0) {
                    queue.add(new int[] {e[0], e[1] + 1, n});
                }
                int mid = besideOn(map, e[2], d);
                int nn = mid < 0 ? -1 : besideOn(map, mid, d);
                if (nn >= 0 && inNet(1, nn) && !inNet(1, mid)) {
                    queue.add(new int[] {e[0] + 1, e[1] + 1, nn});
                }
            }
        }
        return -2;
    }

    // ---- fire

    int fire(int cell) {
        if (cell != -1 && !isCell(cell)) {
            return -2;
        }
        int was = fire;
        fire = cell;
        return was;
    }

    private int toFire(int who) {
        Map<Integer, Integer> far = far(map, state.level[who], state.at[who]);
        int fewest = 1000;
        for (int d = 0; d < 4; d++) {
            fewest = Math.min(fewest, far.getOrDefault(besideOn(map, fire, d), 1000));
        }
        return fewest;
    }

    int fights(int n) {
        if (n < 0 || n > 60) {
            return -1;
        }
        if (fire < 0) {
            return -2;
        }
        int set = 0;
        tellRow(0, 0);
        for (int i = 0; i < people.size(); i++) {
            if (toFire(i) <= n) {
                set |= 1 << i;
                int sex = people.get(i).woman ? 1 : 0;
                row.set(sex, row.get(sex) + 1);
            }
        }
        return set;
    }

    int saved() {
        if (fire < 0) {
            return -2;
        }
        for (int t = 0; t <= 60; t++) {
            int man = -1;
            int woman = -1;
            for (int near = 0; near <= t; near++) {
                for (int i = 0; i < people.size(); i++) {
                    if (toFire(i) == near) {
                        man = man < 0 && !people.get(i).woman ? i : man;
                        woman = woman < 0 && people.get(i).woman ? i : woman;
                    }
                }
            }
            if (man >= 0 && woman >= 0) {
                tellRow(man, woman);
                return t;
            }
        }
        return -2;
    }

    int wardrobe(int from, int to) {
        if (!isCell(from) || !isCell(to) || !stair(map, from) || !stair(map, to)) {
            return -1;
        }
        List<int[]> none = List.of();
        Map<List<Integer>, List<Integer>> best = new HashMap<>();
        Map<List<Integer>, List<Integer>> front = new HashMap<>();
        front.put(List.of(from, from), new ArrayList<>());
        best.putAll(front);
        List<Integer> aim = List.of(to, to);
        while (!front.isEmpty() && !best.containsKey(aim)) {
            Map<List<Integer>, List<Integer>> next = new HashMap<>();
            for (Map.Entry<List<Integer>, List<Integer>> e : front.entrySet()) {
                for (int d = 0; d < 25; d++) {
                    int below = go(map, none, 0, e.getKey().get(0), d / 5);
                    int above = go(map, none, 1, e.getKey().get(1), d % 5);
                    boolean close = below == above;
                    for (int side = 0; side < 4 && below >= 0; side++) {
                        close |= besideOn(map, below, side) == above;
                    }
                    if (below >= 0 && above >= 0 && close && !best.containsKey(List.of(below, above))) {
                        next.merge(List.of(below, above), with(e.getValue(), d / 5 * 10 + d % 5),
                                (a, b) -> compare(a, b) <= 0 ? a : b);
                    }
                }
            }
            best.putAll(next);
            front = next;
        }
        List<Integer> way = best.get(aim);
        if (way == null) {
            return -2;
        }
        row = new ArrayList<>(way.subList(0, Math.min(10, way.size())));
        return way.size();
    }

    // ---- thieves

    private boolean taken(State s, int level, int cell) {
        for (int i = 0; i < people.size(); i++) {
            if (s.at[i] == cell && s.level[i] == level) {
                return true;
            }
        }
        return false;
    }

    private List<State> future(int n) {
        List<State> states = new ArrayList<>();
        State s = state.twin();
        for (int i = 0; i < n; i++) {
            s = s.twin();
            pass(s);
            states.add(s);
        }
        return states;
    }

    private TreeSet<Integer> moves(int level, int cell) {
        TreeSet<Integer> to = new TreeSet<>();
        to.add(level * 100 + cell);
        if (stair(map, cell)) {
            to.add((1 - level) * 100 + cell);
        }
        for (int d = 0; d < 4; d++) {
            if (go(level, cell, d) >= 0) {
                to.add(level * 100 + go(level, cell, d));
            }
        }
        return to;
    }

    /** Where it can be, minute by minute. */
    private List<TreeSet<Integer>> flight(List<State> future, int cell, int level) {
        List<TreeSet<Integer>> all = new ArrayList<>();
        TreeSet<Integer> now = new TreeSet<>(List.of(level * 100 + cell));
        for (State s : future) {
            TreeSet<Integer> next = new TreeSet<>();
            for (int e : now) {
                for (int n : moves(e / 100, e % 100)) {
                    if (!taken(s, n / 100, n % 100)) {
                        next.add(n);
                    }
                }
            }
            all.add(next);
            now = next;
        }
        return all;
    }

    private void tellPlaces(TreeSet<Integer> places) {
        TreeSet<Integer> below = new TreeSet<>(places.headSet(100));
        TreeSet<Integer> above = new TreeSet<>();
        for (int e : places.tailSet(100)) {
            above.add(e - 100);
        }
        tellRow(low(below), high(below), low(above), high(above));
    }

    int flees(int cell, int level, int n) {
        if (!inNet(level, cell) || n < 1 || n > 30) {
            return -1;
        }
        TreeSet<Integer> then = flight(future(n), cell, level).get(n - 1);
        tellPlaces(then);
        return then.isEmpty() ? 0 : 1;
    }

    int lairs(int n) {
        if (n < 1 || n > 30) {
            return -1;
        }
        List<State> future = future(n);
        TreeSet<Integer> good = new TreeSet<>();
        for (int level = 0; level < 2; level++) {
            for (int c = 0; c < size(); c++) {
                if (inNet(level, c) && !flight(future, c, level).get(n - 1).isEmpty()) {
                    good.add(level * 100 + c);
                }
            }
        }
        tellPlaces(good);
        return good.size();
    }

    int caught(int cell, int level) {
        if (!inNet(level, cell)) {
            return -1;
        }
        List<TreeSet<Integer>> flight = flight(future(30), cell, level);
        for (int t = 1; t <= 30; t++) {
            if (flight.get(t - 1).isEmpty()) {
                return t;
            }
        }
        return -2;
    }

    int watch(int cell, int level, int aim, int aimLevel) {
        if (!inNet(level, cell) || !inNet(aimLevel, aim)) {
            return -1;
        }
        List<List<Integer>> good = new ArrayList<>();
        for (int set = 0; set < 1 << people.size(); set++) {
            TreeSet<Integer> seen = new TreeSet<>(List.of(level * 100 + cell));
            Deque<Integer> queue = new ArrayDeque<>(seen);
            while (!queue.isEmpty()) {
                int e = queue.remove();
                for (int n : moves(e / 100, e % 100)) {
                    boolean barred = false;
                    for (int i = 0; i < people.size(); i++) {
                        barred |= (set >> i & 1) == 1 && state.at[i] == n % 100 && state.level[i] == n / 100;
                    }
                    if (!barred && seen.add(n)) {
                        queue.add(n);
                    }
                }
            }
            if (!seen.contains(aimLevel * 100 + aim)) {
                good.add(List.of(Integer.bitCount(set), set));
            }
        }
        if (good.isEmpty()) {
            return -2;
        }
        List<Integer> best = Collections.min(good, Plain::compare);
        tellRow(best.get(1));
        return best.get(0);
    }

    // ---- kept

    boolean keep(int i) {
        if (i != 0 && i != 1) {
            return false;
        }
        kept[i] = state.twin();
        return true;
    }

    boolean again(int i) {
        if (i != 0 && i != 1 || kept[i] == null) {
            return false;
        }
        state = kept[i].twin();
        past.clear();
        return true;
    }

    int count(int what) {
        switch (what) {
            case 0: return size();
            case 1: return wide();
            case 2: return people.size();
            case 3: return state.now;
            case 4: return state.planks.size();
            case 5:
                int women = 0;
                for (int i = 0; i < people.size(); i++) {
                    women |= people.get(i).woman ? 1 << i : 0;
                }
                return women;
            case 6: return bits(state.news);
            case 7: return state.feast ? 1 : 0;
            case 8: return state.met.values().stream().mapToInt(Integer::intValue).sum();
            case 9: return fire;
            case 10: return past.size();
            case 11: return row.size();
            case 12: return text.length();
            default: return -100;
        }
    }

    int row(int i) {
        if (i < 0 || i >= row.size()) {
            throw new NoSuchElementException();
        }
        return row.get(i);
    }
}
