import java.io.IOException;
import java.lang.reflect.Constructor;
import java.lang.reflect.Field;
import java.lang.reflect.Method;
import java.lang.reflect.Modifier;
import java.nio.charset.StandardCharsets;
import java.nio.file.Files;
import java.nio.file.Path;
import java.util.ArrayList;
import java.util.Arrays;
import java.util.List;
import java.util.TreeSet;
import java.util.regex.Matcher;
import java.util.regex.Pattern;

/** The public face as the document has it, and those rules of LANGUAGE.md that can be looked up. */
public final class LanguageTest {
    private static final Tester T = new Tester("LanguageTest");
    private static final String[] FACE = {"int sign(int)", "boolean end(int)", "int town()", "int folk()", "int rule()",
        "int route(int)", "int cell(int,int)", "int person(int,int)", "int build(int,int)", "int plank(int,int)",
        "int take()", "int sheet(int,int,int,int)", "int tell(int)", "int feast(int)", "int minute()",
        "int minutes(int)", "int evening()", "int undo()", "int met(int,int)", "int ahead(int)", "int meet(int,int)",
        "int known()", "int gossip(int)", "int pieces(int)", "int reach(int,int)", "int path(int,int,int)",
        "int both(int,int,int,int)", "int errand(int,int)", "int tryst(int,int)", "int open(int,int)",
        "int part(int,int)", "int planks(int,int)", "int fire(int)", "int fights(int)", "int saved()",
        "int wardrobe(int,int)", "int flees(int,int,int)", "int lairs(int)", "int caught(int,int)",
        "int watch(int,int,int,int)", "boolean keep(int)", "boolean again(int)", "int count(int)", "int row(int)"};

    public static void main(String[] args) throws IOException {
        face();
        classes();
        source(args.length > 0 ? args[0] : "src/main/java/WomenByTheRoofs.java");
        T.finish();
    }

    private static String told(Method m) {
        List<String> types = new ArrayList<>();
        for (Class<?> type : m.getParameterTypes()) {
            types.add(type.getSimpleName());
        }
        return m.getReturnType().getSimpleName() + " " + m.getName() + "(" + String.join(",", types) + ")";
    }

    private static void face() {
        Class<?> c = WomenByTheRoofs.class;
        TreeSet<String> found = new TreeSet<>();
        for (Method m : c.getDeclaredMethods()) {
            if (!Modifier.isPrivate(m.getModifiers())) {
                found.add(told(m));
                T.due("1 public " + told(m), Modifier.isPublic(m.getModifiers()), true);
                T.due("1 of the object " + told(m), Modifier.isStatic(m.getModifiers()), false);
            }
        }
        T.due("1 the document's methods: " + found, found.equals(new TreeSet<>(Arrays.asList(FACE))), true);
        T.due("1 public and final", c.getModifiers(), Modifier.PUBLIC | Modifier.FINAL);
        Constructor<?>[] makers = c.getDeclaredConstructors();
        T.due("1 one constructor", makers.length, 1);
        T.due("1 public, without parameters", makers[0].getModifiers() * 10 + makers[0].getParameterCount(), 10);
        for (Field f : c.getDeclaredFields()) {
            T.due("1 private " + f.getName(), Modifier.isPrivate(f.getModifiers()), !f.getName().equals("NONE"));
        }
        for (String name : new String[] {"cell", "person", "row"}) {
            for (Method m : c.getDeclaredMethods()) {
                if (m.getName().equals(name)) {
                    T.due("1 throws " + name, m.getExceptionTypes().length, 1);
                }
            }
        }
    }

    private static void classes() {
        Class<?>[] inside = WomenByTheRoofs.class.getDeclaredClasses();
        T.due("11 some twelve classes", inside.length + 1 <= 12, true);
        TreeSet<String> names = new TreeSet<>();
        for (String told : FACE) {
            names.add(told.substring(told.indexOf(' ') + 1, told.indexOf('(')));
        }
        List<Class<?>> all = new ArrayList<>(Arrays.asList(inside));
        all.add(WomenByTheRoofs.class);
        for (Class<?> c : all) {
            int fields = 0;
            for (Field f : c.getDeclaredFields()) {
                boolean isStatic = Modifier.isStatic(f.getModifiers());
                fields += isStatic ? 0 : 1;
                T.due("5 final " + f, !isStatic || Modifier.isFinal(f.getModifiers()), true);
            }
            T.due("11 some twenty fields of " + c, fields <= 20, true);
            for (Method m : c.getDeclaredMethods()) {
                T.due("11 seven parameters of " + m, m.getParameterCount() <= 7, true);
                boolean ofFace = c == WomenByTheRoofs.class && Modifier.isPublic(m.getModifiers());
                T.due("1 name of " + m, !ofFace && names.contains(m.getName()), false);
            }
            if (c != WomenByTheRoofs.class) {
                T.due("2 static " + c, Modifier.isStatic(c.getModifiers()), true);
                T.due("1 not public " + c, Modifier.isPublic(c.getModifiers()), false);
            }
        }
    }

    private static void source(String path) throws IOException {
        String text = Files.readString(Path.of(path), StandardCharsets.UTF_8);
        T.due("4 signs 1 to 127", text.chars().allMatch(c -> c > 0 && c < 128), true);
        String code = text.replaceAll("(?s)/\\*.*?\\*/", "").replaceAll("//[^\n]*", "");
        String[] never = {"->", "::", "\\bfinally\\b", "\\bsynchronized\\b", "\\bassert\\b", "Exact\\b", "\\bpackage\\b",
            "\\bcatch\\b", "\\bfloat\\b", "\\bdouble\\b", "\\bstatic\\s*\\{", "\\bprotected\\b", "\\bSystem\\.(?!arraycopy)",
            "\\bObject\\b", "\\bString\\b", "\"", "\\bRandom\\b", "\\bThread\\b", "\\bwait\\(", "\\bnotify\\("};
        for (String word : never) {
            Matcher m = Pattern.compile(word).matcher(code);
            T.due("4 no " + word, m.find(), false);
        }
        Matcher imports = Pattern.compile("import ([^;]*);").matcher(code);
        while (imports.find()) {
            T.due("4 import " + imports.group(1), imports.group(1).equals("java.util.NoSuchElementException"), true);
        }
        Matcher thrown = Pattern.compile("throw [^;]*;").matcher(code);
        while (thrown.find()) {
            T.due("6 " + thrown.group(), thrown.group().equals("throw new NoSuchElementException();"), true);
        }
        Matcher loops = Pattern.compile("\\b(while|do)\\b").matcher(code);
        T.due("9 each loop counts", loops.find(), false);
        lengths(text);
    }

    /** No method of more than some sixty lines: from a line that opens one to the line that closes it. */
    private static void lengths(String text) {
        String[] lines = text.split("\n");
        for (int i = 0; i < lines.length; i++) {
            Matcher m = Pattern.compile("^( {4}| {8})(?! )[a-zA-Z\\[\\] ]+\\(.*\\{$").matcher(lines[i]);
            if (m.matches()) {
                int end = i;
                while (end < lines.length && !lines[end].equals(m.group(1) + "}")) {
                    end++;
                }
                T.due("11 some sixty lines " + lines[i].trim(), end - i < 60, true);
            }
            T.due("line " + (i + 1) + " is short", lines[i].length() <= 120, true);
        }
    }
}
