import java.lang.reflect.InvocationTargetException;
import java.lang.reflect.Method;
import java.util.ArrayList;
import java.util.Arrays;
import java.util.Comparator;
import java.util.List;
import java.util.Random;

/** No call throws, whatever its numbers, whatever is on the tape, in whichever state; each answer is one that can be. */
final class AnyArgumentsTest {
    private static final int CALLS = 300;
    private static final int[] NUMBERS = {Integer.MIN_VALUE, Integer.MIN_VALUE + 1, -65536, -256, -1, 0, 1, 2, 3, 5, 6, 7, 10, 11, 20,
        21, 24, 29, 30, 31, 32, 33, 39, 40, 41, 60, 61, 99, 100, 101, 255, 256, 998, 999, 1000, 1599, 1600, 1601, 65536,
        Integer.MAX_VALUE - 1, Integer.MAX_VALUE};
    private static final String[] TEXTS = {"slope 6 by 30;", "fence a row 0 age 0;", "iron 0 0;", "walks steep+age/(row-3);",
        "roots left<2 or not [age>9];", "tide 50;", "steep 0 9;", "stake a 0 row 3;", "often ", "total ", "most ", "first ",
        "row ", "below ", "min(", "max(1,", "((((((", "not ", "[", "]", ")", "age", "all", "1", "9999", "12345", "<", "/0", "*",
        " ", "\n", ";", "\u00ff", "\u0000", "A", "abcdefg"};

    private AnyArgumentsTest() {
    }

    public static void main(String[] args) throws IllegalAccessException {
        Method[] methods = WalkFence.class.getDeclaredMethods();
        List<Method> face = new ArrayList<>();
        for (Method m : methods) {
            if (java.lang.reflect.Modifier.isPublic(m.getModifiers())) {
                face.add(m);
            }
        }
        // In an order of its own, so that each run has the same calls.
        face.sort(Comparator.comparing(Method::getName));
        for (int run = 0; run < 400; run++) {
            Due.about("run " + run);
            play(new Random(run), state(run % 5), face);
        }
        Due.end();
    }

    private static WalkFence state(int which) {
        String six = "slope 6 by 30;fence a row 0 age 0;fence b row 5 age 9;fence c row 9 age 98;fence d row 20 age 99;"
                + "fence e row 28 age 50;fence f row 29 age 1;walks steep+age/9;roots left<3;tide 70;";
        switch (which) {
            case 0: return new WalkFence();
            case 1: return Due.on("slope 1 by 4;");
            case 2: return Due.on(six);
            case 3: return Due.onYear("slope 2 by 7;fence a row 0 age 0;fence b row 5 age 9;tide 70;", 990);
            default: return withPosts(Due.on(six));
        }
    }

    private static WalkFence withPosts(WalkFence x) {
        for (int k = 0; k < 24; k++) {
            x.iron(k % 6, 3 * (k / 6));
        }
        return x;
    }

    private static int[] anyBytes(Random random) {
        StringBuilder text = new StringBuilder();
        for (int k = random.nextInt(40); k > 0; k--) {
            text.append(TEXTS[random.nextInt(TEXTS.length)]);
        }
        int[] bytes = Due.bytesOf(text.length() > 1600 ? text.substring(0, 1600) : text.toString());
        if (random.nextInt(3) == 0) {
            bytes = new int[random.nextInt(60)];
            for (int k = 0; k < bytes.length; k++) {
                bytes[k] = random.nextInt(random.nextBoolean() ? 6 : 256);
            }
        }
        return bytes;
    }

    private static void play(Random random, WalkFence x, List<Method> face) throws IllegalAccessException {
        for (int k = 0; k < CALLS; k++) {
            Method call = face.get(random.nextInt(face.size()));
            if (call.getParameterCount() == 0 && random.nextInt(4) == 0) {
                Due.tape(x, anyBytes(random));
                k += 20;
            }
            Object[] with = new Object[call.getParameterCount()];
            for (int n = 0; n < with.length; n++) {
                with[n] = random.nextInt(3) == 0 ? random.nextInt(8) : NUMBERS[random.nextInt(NUMBERS.length)];
            }
            String told = call.getName() + Arrays.toString(with);
            try {
                Due.is(told + " can be", canBe(call.getName(), call.invoke(x, with)), true);
            } catch (InvocationTargetException e) {
                Due.is(told + " throws " + e.getCause(), false, true);
            }
        }
    }

    private static boolean canBe(String name, Object answer) {
        if (answer instanceof Boolean) {
            return true;
        }
        long n = ((Number) answer).longValue();
        if (name.equals("ask")) {
            return n == WalkFence.NOTHING || Math.abs(n) <= 6000000;
        }
        int most = name.equals("feed") || name.equals("fault") ? 1600 : name.equals("has") || name.equals("kept") ? 999
                : name.equals("years") ? 3600 : name.equals("status") ? 512 : name.equals("octet") ? 255 : 180;
        return n >= WalkFence.NONE && n <= most;
    }
}
