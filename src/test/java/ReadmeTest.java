import java.io.IOException;
import java.lang.reflect.Method;
import java.lang.reflect.Modifier;
import java.nio.file.Files;
import java.nio.file.Path;
import java.util.ArrayList;
import java.util.List;
import java.util.regex.Matcher;
import java.util.regex.Pattern;

/** README.md tells the truth: its example answers as it says, its helper works, and it names every call. */
final class ReadmeTest {
    private static final Pattern PUT = Pattern.compile("put\\(x, \"(.*)\"\\);");
    private static final Pattern CALL = Pattern.compile("x\\.(\\w+)\\(([^)]*)\\); +// (-?\\w+).*");

    private ReadmeTest() {
    }

    public static void main(String[] args) throws IOException {
        List<String> page = Files.readAllLines(Path.of("README.md"));
        List<List<String>> blocks = javaBlocks(page);
        Due.is("README.md has a helper and an example", blocks.size(), 2);
        if (blocks.size() == 2) {
            helper(blocks.get(0));
            example(blocks.get(1));
        }
        everyCall(page);
        Due.end();
    }

    private static List<List<String>> javaBlocks(List<String> page) {
        List<List<String>> blocks = new ArrayList<>();
        List<String> open = null;
        for (String line : page) {
            if (line.equals("```java")) {
                open = new ArrayList<>();
                blocks.add(open);
            } else if (line.equals("```")) {
                open = null;
            } else if (open != null) {
                open.add(line);
            }
        }
        return blocks;
    }

    /** The helper on the page is the one below, so running the example runs it. */
    private static void helper(List<String> lines) throws IOException {
        Due.about("README.md, the helper");
        String here = Files.readString(Path.of("src/test/java/ReadmeTest.java"));
        StringBuilder there = new StringBuilder();
        for (String line : lines) {
            there.append("    ").append(line).append('\n');
        }
        Due.is("it stands in ReadmeTest as it does on the page", !lines.isEmpty() && here.contains(there), true);
    }

    static void put(WalkFence x, String text) {
        x.end(0);
        for (int at = 0; at < text.length(); at += 20) {
            int[] n = new int[5];
            for (int k = 0; k < 20; k++) {
                n[k / 4] = n[k / 4] << 8 | (at + k < text.length() ? text.charAt(at + k) & 255 : 32);
            }
            x.feed(n[0], n[1], n[2], n[3], n[4]);
        }
        x.end(text.length());
    }

    private static void example(List<String> lines) {
        Due.about("README.md, the example");
        WalkFence x = new WalkFence();
        int calls = 0;
        for (String line : lines.subList(Math.min(1, lines.size()), lines.size())) {
            Matcher put = PUT.matcher(line);
            Matcher call = CALL.matcher(line);
            if (put.matches()) {
                put(x, put.group(1));
            } else if (call.matches()) {
                calls++;
                String got = answer(x, call.group(1), call.group(2));
                Due.is(line + " (answered " + got + ")", got.equals(call.group(3)), true);
            } else {
                Due.is("a line that is no call: " + line, false, true);
            }
        }
        Due.is("it has calls", calls > 0, true);
    }

    private static String answer(WalkFence x, String name, String told) {
        String[] numbers = told.isEmpty() ? new String[0] : told.split(", ");
        Object[] values = new Object[numbers.length];
        Class<?>[] kinds = new Class<?>[numbers.length];
        for (int k = 0; k < numbers.length; k++) {
            values[k] = Integer.decode(numbers[k]);
            kinds[k] = int.class;
        }
        try {
            return String.valueOf(WalkFence.class.getMethod(name, kinds).invoke(x, values));
        } catch (ReflectiveOperationException e) {
            return e.toString();
        }
    }

    private static void everyCall(List<String> page) {
        Due.about("README.md, the calls");
        for (Method m : WalkFence.class.getDeclaredMethods()) {
            if (Modifier.isPublic(m.getModifiers())) {
                Pattern row = Pattern.compile("\\| `" + m.getName() + "\\(([^)]*)\\)` \\| .+ \\|");
                int rows = 0;
                int takes = -1;
                for (String line : page) {
                    Matcher found = row.matcher(line);
                    if (found.matches()) {
                        rows++;
                        takes = found.group(1).isEmpty() ? 0 : found.group(1).split(", ").length;
                    }
                }
                Due.is("rows of " + m.getName(), rows, 1);
                Due.is("what " + m.getName() + " takes", takes, m.getParameterCount());
            }
        }
    }
}
