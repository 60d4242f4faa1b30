import java.io.IOException;
import java.lang.management.ManagementFactory;
import java.lang.reflect.Constructor;
import java.lang.reflect.Field;
import java.lang.reflect.Method;
import java.lang.reflect.Modifier;
import java.nio.file.Files;
import java.nio.file.Path;
import java.util.ArrayList;
import java.util.Arrays;
import java.util.List;
import java.util.TreeSet;
import java.util.regex.Matcher;
import java.util.regex.Pattern;

/** What ../shared/LANGUAGE.md asks of the class, as far as a test can look at it. */
final class RulesTest {
    private static final String[] FACE = {
        "ask()", "below(int,int)", "chance(int)", "cut(int)", "end(int)", "fault(int)", "feed(int,int,int,int,int)",
        "fence(int,int)", "fits(int)", "has(int)", "image()", "iron(int,int)", "irons(int,int,int)", "kept(int,int)",
        "later(int,int,int)", "letter(int,int)", "meets(int,int)", "octet(int)", "on()", "place(int,int,int)",
        "rest(int)", "see()", "seed(int)", "set(int)", "sets(int,int,int)", "slope()", "stake(int,int)", "status(int)",
        "tells(int)", "undo()", "walks(int,int)", "whose(int,int,int)", "years(int)",
    };
    private static final String[] BANNED = {
        "\\bthrow\\b", "\\btry\\b", "\\bcatch\\b", "\\bsynchronized\\b", "\\bassert\\b", "->", "::", "\\bnull\\.",
        "Exact\\(", "\\bObject\\b", "\\bSystem\\.(?!arraycopy)", "\\bpackage\\b", "\\bvolatile\\b", "\\bnative\\b",
        "^import (?!java\\.util\\.Arrays;)",
    };
    private static final int LONGEST_METHOD = 60;
    private static final int MOST_PARAMETERS = 7;
    private static final int MOST_CLASSES = 12;
    private static final int MOST_FIELDS = 20;

    private RulesTest() {
    }

    public static void main(String[] args) throws IOException {
        face();
        classes();
        source(Files.readAllLines(Path.of("src/main/java/WalkFence.java")));
        room();
        Due.end();
    }

    private static void face() {
        Due.about("rule 1");
        TreeSet<String> is = new TreeSet<>();
        TreeSet<String> own = new TreeSet<>();
        for (Method m : WalkFence.class.getDeclaredMethods()) {
            if (Modifier.isPrivate(m.getModifiers())) {
                own.add(m.getName());
                continue;
            }
            Due.is(m.getName() + " is public and of an object", m.getModifiers() & ~Modifier.FINAL, Modifier.PUBLIC);
            String takes = Arrays.toString(m.getParameterTypes()).replace("[", "(").replace("]", ")").replace(" ", "");
            is.add(m.getName() + takes);
            Class<?> due = m.getName().equals("ask") ? long.class : answersBoolean(m.getName()) ? boolean.class : int.class;
            Due.is(m.getName() + " answers as told", m.getReturnType() == due, true);
        }
        Due.is("the methods are those of the face", is.equals(new TreeSet<>(Arrays.asList(FACE))), true);
        for (String name : own) {
            Due.is("no private method has a public name: " + name, has(is, name), false);
        }
        for (Field f : WalkFence.class.getDeclaredFields()) {
            boolean constant = f.getName().equals("NONE") || f.getName().equals("NOTHING");
            Due.is("field " + f.getName(), Modifier.isPublic(f.getModifiers()), constant);
            Due.is("field " + f.getName() + " private", Modifier.isPrivate(f.getModifiers()), !constant);
        }
        Due.is("NONE", WalkFence.NONE, -1);
        Due.is("NOTHING", WalkFence.NOTHING, -1000000000000000L);
        Constructor<?>[] makers = WalkFence.class.getDeclaredConstructors();
        Due.is("one constructor", makers.length == 1 && Modifier.isPublic(makers[0].getModifiers()), true);
        Due.is("public and final", WalkFence.class.getModifiers(), Modifier.PUBLIC | Modifier.FINAL);
    }

    private static boolean answersBoolean(String name) {
        return Arrays.asList("end", "set", "cut", "undo", "seed", "on").contains(name);
    }

    private static boolean has(TreeSet<String> face, String name) {
        for (String method : face) {
            if (method.startsWith(name + "(")) {
                return true;
            }
        }
        return false;
    }

    private static void classes() {
        Due.about("rules 2, 5, 11");
        List<Class<?>> all = new ArrayList<>(Arrays.asList(WalkFence.class.getDeclaredClasses()));
        for (Class<?> c : all) {
            Due.is(c.getName() + " is static", Modifier.isStatic(c.getModifiers()), true);
            Due.is(c.getName() + " is not public", Modifier.isPublic(c.getModifiers()), false);
        }
        all.add(WalkFence.class);
        Due.is("classes", all.size() <= MOST_CLASSES, true);
        for (Class<?> c : all) {
            int fields = 0;
            for (Field f : c.getDeclaredFields()) {
                boolean fixed = Modifier.isStatic(f.getModifiers());
                fields += fixed ? 0 : 1;
                Due.is("a constant: " + f, !fixed || Modifier.isFinal(f.getModifiers()), true);
            }
            Due.is("fields of " + c.getName(), fields <= MOST_FIELDS, true);
            for (Method m : c.getDeclaredMethods()) {
                Due.is("parameters of " + m, m.getParameterCount() <= MOST_PARAMETERS, true);
            }
        }
    }

    private static void source(List<String> lines) {
        Due.about("rules 4, 6, 11");
        int from = -1;
        for (int k = 0; k < lines.size(); k++) {
            String line = lines.get(k);
            String code = line.replaceAll("\"[^\"]*\"", "\"\"").replaceAll("//.*|/\\*\\*.*\\*/", "");
            for (String banned : BANNED) {
                Matcher found = Pattern.compile(banned).matcher(code);
                Due.is("line " + (k + 1) + " has " + banned, found.find(), false);
            }
            boolean begins = code.matches("( {4}| {8})(public|private|static|final|void|boolean|int|long|[A-Z]\\w*)\\b.*\\{");
            if (begins && code.contains("(")) {
                from = k;
            }
            if (from >= 0 && code.matches("( {4}| {8})\\}")) {
                Due.is("the method from line " + (from + 1) + " is short", k - from < LONGEST_METHOD, true);
                from = -1;
            }
        }
    }

    /** All calls of a run live in one room, so a call makes nothing. */
    private static void room() {
        Due.about("rule 12");
        com.sun.management.ThreadMXBean bean = (com.sun.management.ThreadMXBean) ManagementFactory.getThreadMXBean();
        long thread = Thread.currentThread().getId();
        int[] text = Due.words(Due.bytesOf("total row 0+fiel    "));
        long sum = 0;
        long made = 0;
        for (int object = 0; object < 100; object++) {
            WalkFence x = Due.on("slope 3 by 8;fence a row 1 age 0;fence b row 2 age 0;tide 50;walks steep+age/4;roots left<2;");
            long before = bean.getThreadAllocatedBytes(thread);
            for (int k = 0; k < 14; k++) {
                sum += everyCall(x, text, k);
            }
            made += bean.getThreadAllocatedBytes(thread) - before;
        }
        Due.is("calls make nothing (" + sum % 2 + ")", made < 20000, true);
    }

    private static long everyCall(WalkFence x, int[] text, int k) {
        x.set(k % 2);
        x.cut(k % 2);
        x.iron(k % 3, k % 8);
        x.years(2);
        x.chance(3);
        long sum = x.later(0, 5, 0) + x.whose(0, 3, 5) + x.meets(0, 1) + x.below(0, 1) + x.sets(0, 3, 1);
        sum += x.irons(0, 3, 2) + x.rest(3) + x.fits(0) + x.tells(2) + x.has(7) + x.kept(0, 0) + x.image() + x.octet(3);
        x.undo();
        x.undo();
        x.feed(text[0], text[1], text[2], text[3], text[4]);
        x.end(11 + k % 6);
        sum += x.ask();
        x.feed(0, 0x00010200, 0, 0, 0);
        x.end(3 + k % 4);
        sum += x.see();
        x.feed(0, 0, 0, 0, 0);
        x.on();
        x.feed(text[0], text[1], text[2], text[3], text[4]);
        return sum + x.slope();
    }
}
