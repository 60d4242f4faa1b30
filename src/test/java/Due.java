/** What the tests share: compares answers with those that are due, and feeds texts and bytes. */
final class Due {
    private static int wrong = 0;
    private static String about = "";

    private Due() {
    }

    static void about(String what) {
        about = what;
    }

    static void is(String call, long got, long want) {
        if (got != want) {
            wrong++;
            System.out.println(about + ": " + call + " answered " + got + ", due is " + want);
        }
    }

    static void is(String call, boolean got, boolean want) {
        is(call, got ? 1 : 0, want ? 1 : 0);
    }

    static void end() {
        System.out.println(wrong == 0 ? "all answers are as due" : wrong + " answers are not as due");
        if (wrong != 0) {
            System.exit(1);
        }
    }

    static int[] bytesOf(String text) {
        int[] bytes = new int[text.length()];
        for (int k = 0; k < bytes.length; k++) {
            bytes[k] = text.charAt(k) & 255;
        }
        return bytes;
    }

    /** The numbers with which feed() brings these bytes, and blanks behind them. */
    static int[] words(int[] bytes) {
        int[] words = new int[(bytes.length + 19) / 20 * 5];
        for (int k = 0; k < words.length * 4; k++) {
            words[k / 4] = words[k / 4] << 8 | (k < bytes.length ? bytes[k] & 255 : 32);
        }
        return words;
    }

    /** These bytes alone are on the tape. */
    static void tape(WalkFence x, int... bytes) {
        x.end(0);
        int[] words = words(bytes);
        for (int k = 0; k < words.length; k += 5) {
            x.feed(words[k], words[k + 1], words[k + 2], words[k + 3], words[k + 4]);
        }
        x.end(bytes.length);
    }

    static int slope(WalkFence x, String text) {
        tape(x, bytesOf(text));
        return x.slope();
    }

    static long ask(WalkFence x, String text) {
        tape(x, bytesOf(text));
        return x.ask();
    }

    static WalkFence on(String text) {
        WalkFence x = new WalkFence();
        if (slope(x, text) == WalkFence.NONE) {
            is("slope() of " + text + " with FAULT " + x.fault(0) + " at " + x.fault(1), 0, 1);
        }
        return x;
    }
}
