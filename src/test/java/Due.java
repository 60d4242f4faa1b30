import java.util.Arrays;

/** What the tests share: compares answers with those that are due, and feeds texts and bytes. */
final class Due {
    private static int wrong = 0;
    private static int asked = 0;
    private static String about = "";

    private Due() {
    }

    static void about(String what) {
        about = what;
    }

    /** How many answers were compared so far. */
    static int asked() {
        return asked;
    }

    static void is(String call, long got, long want) {
        asked++;
        if (got != want) {
            wrong++;
            System.out.println(about + ": " + call + " answered " + got + ", due is " + want);
        }
    }

    static void is(String call, boolean got, boolean want) {
        is(call, got ? 1 : 0, want ? 1 : 0);
    }

    static void end() {
        System.out.println(wrong == 0 ? "all answers are as due" : wrong + " answers are not as due");
        if (wrong != 0) {
            System.exit(1);
        }
    }

    static int[] bytesOf(String text) {
        int[] bytes = new int[text.length()];
        for (int k = 0; k < bytes.length; k++) {
            bytes[k] = text.charAt(k) & 255;
        }
        return bytes;
    }

    /** The numbers with which feed() brings these bytes, and blanks behind them. */
    static int[] words(int[] bytes) {
        int[] words = new int[(bytes.length + 19) / 20 * 5];
        for (int k = 0; k < words.length * 4; k++) {
            words[k / 4] = words[k / 4] << 8 | (k < bytes.length ? bytes[k] & 255 : 32);
        }
        return words;
    }

    /** These bytes alone are on the tape. */
    static void tape(WalkFence x, int... bytes) {
        x.end(0);
        int[] words = words(bytes);
        for (int k = 0; k < words.length; k += 5) {
            x.feed(words[k], words[k + 1], words[k + 2], words[k + 3], words[k + 4]);
        }
        x.end(bytes.length);
    }

    static int slope(WalkFence x, String text) {
        tape(x, bytesOf(text));
        return x.slope();
    }

    static long ask(WalkFence x, String text) {
        tape(x, bytesOf(text));
        return x.ask();
    }

    static WalkFence on(String text) {
        WalkFence x = new WalkFence();
        if (slope(x, text) == WalkFence.NONE) {
            is("slope() of " + text + " with FAULT " + x.fault(0) + " at " + x.fault(1), 0, 1);
        }
        return x;
    }

    static String many(int n, String text) {
        StringBuilder s = new StringBuilder();
        for (int k = 0; k < n; k++) {
            s.append(text);
        }
        return s.toString();
    }

    /** A new object refuses this text as a SLOPE, with that FAULT at that place. */
    static void fault(String text, int kind, int at) {
        WalkFence x = new WalkFence();
        is("slope() of " + text, slope(x, text), WalkFence.NONE);
        is("fault(0) of " + text, x.fault(0), kind);
        is("fault(1) of " + text, x.fault(1), at);
        is("status(1) of " + text, x.status(1), 1);
    }

    /** A new object takes this text as a SLOPE of so many STATEMENTS. */
    static WalkFence right(String text, int statements) {
        WalkFence x = new WalkFence();
        is("slope() of " + text, slope(x, text), statements);
        is("fault(0) of " + text, x.fault(0), 0);
        is("fault(1) of " + text, x.fault(1), WalkFence.NONE);
        is("status(1) of " + text, x.status(1), 0);
        return x;
    }

    /** A QUESTION without a FAULT. */
    static void answers(WalkFence x, String text, long due) {
        is(text, ask(x, text), due);
        is("fault(0) of " + text, x.fault(0), 0);
        is("fault(1) of " + text, x.fault(1), WalkFence.NONE);
    }

    /** A QUESTION with that FAULT at that place. */
    static void askFault(WalkFence x, String text, int kind, int at) {
        is("ask() of " + text, ask(x, text), WalkFence.NOTHING);
        is("fault(0) of " + text, x.fault(0), kind);
        is("fault(1) of " + text, x.fault(1), at);
    }

    static int sees(WalkFence x, int... bytes) {
        tape(x, bytes);
        return x.see();
    }

    static boolean takes(WalkFence x, int... bytes) {
        tape(x, bytes);
        return x.on();
    }

    static int[] imageOf(WalkFence x) {
        int[] bytes = new int[x.image()];
        for (int k = 0; k < bytes.length; k++) {
            bytes[k] = x.octet(k);
        }
        return bytes;
    }

    /** These bytes and the one that belongs behind them. */
    static int[] checked(int... bytes) {
        int[] all = Arrays.copyOf(bytes, bytes.length + 1);
        int c = 131;
        for (int b : bytes) {
            c = (3 * c + b) % 251;
        }
        all[bytes.length] = c;
        return all;
    }

    /** As the text tells, but in that YEAR. */
    static WalkFence onYear(String text, int year) {
        WalkFence x = on(text);
        int[] bytes = imageOf(x);
        bytes[0] = year / 256;
        bytes[1] = year % 256;
        is("on() in YEAR " + year, takes(x, checked(Arrays.copyOf(bytes, bytes.length - 1))), true);
        is("YEAR " + year, x.has(3), year);
        return x;
    }
}
