import java.util.ArrayList;
import java.util.List;
import java.util.function.Consumer;

/**
 * What each refused call leaves as it was: promises 2 to 4, 20, 23 to 30, 33, 34. Two objects come the same way; to one
 * of them something is refused. All that can be asked of them, and how they go on, must be alike but for the count.
 */
final class RefusedTest {
    private static final String SLOPE = "slope 2 by 5;steep 1 2;iron 1 4;fence f row 3 age 3;fence g row 0 age 4;tide 60;roots left=0;";
    private static final String OTHER = "slope 1 by 4;iron 0 0;fence q row 0 age 99;walks 9;roots all;tide 100;";

    private RefusedTest() {
    }

    public static void main(String[] args) {
        refusedActs();
        refusedYears();
        refusedUndo();
        refusedSeed();
        refusedTapes();
        refusedSlopes();
        refusedSeen();
        refusedImages();
        askedInVain();
        withoutASlope();
        Due.end();
    }

    /** Some ACTS, a row SEEN, an image, a FAULT. */
    private static void come(WalkFence x) {
        Due.slope(x, SLOPE);
        x.seed(31);
        x.chance(3);
        x.iron(0, 2);
        x.set(1);
        x.cut(1);
        Due.sees(x, 0, 0, 1);
        x.image();
        x.years(1);
        x.cut(0);
        Due.ask(x, "total ((((((((1");
        Due.is("something is KEPT", x.has(8) > 0, true);
        Due.is("some, not all, fit", x.fits(0) > 0 && x.fits(0) < 31, true);
    }

    private static List<Long> asked(WalkFence x) {
        List<Long> all = new ArrayList<>();
        for (int what = 0; what <= 10; what++) {
            all.add((long) x.has(what));
        }
        for (int what = 0; what < 2; what++) {
            all.add((long) x.fault(what));
            all.add((long) x.letter(what, 0));
            all.add((long) x.meets(what, 1 - what));
            all.add((long) x.below(what, 1 - what));
        }
        for (int c = 0; c < 2; c++) {
            for (int r = 0; r < 5; r++) {
                all.add((long) x.place(c, r, 1));
                all.add((long) x.whose(c, r, 2));
            }
        }
        for (int f = 0; f < 2; f++) {
            for (int what = 0; what < 4; what++) {
                all.add((long) x.fence(f, what));
            }
            for (int what = 0; what < 3; what++) {
                all.add((long) x.later(f, 3, what));
                all.add((long) x.irons(f, 2, what));
            }
            for (int c = 0; c < 2; c++) {
                all.add((long) x.stake(f, c));
                all.add((long) x.walks(f, c));
            }
            all.add((long) x.sets(f, 3, 1));
        }
        for (int k = 0; k < 6; k++) {
            for (int what = 0; what < 3; what++) {
                all.add((long) x.kept(k, what));
            }
        }
        for (int what = 0; what < 3; what++) {
            all.add((long) x.fits(what));
            all.add((long) x.tells(what));
        }
        all.add((long) x.rest(2));
        for (int k = 0; k < 16; k++) {
            all.add((long) x.octet(k));
        }
        return all;
    }

    private static void alike(String when, WalkFence x, WalkFence y) {
        List<Long> is = asked(x);
        List<Long> due = asked(y);
        for (int k = 0; k < due.size(); k++) {
            Due.is(when + ", what was asked as number " + k, is.get(k), due.get(k));
        }
    }

    /** How both go on: by the seed, then back as far as can be. */
    private static void goOn(String when, WalkFence x, WalkFence y) {
        Due.is(when + ", the tape", x.feed(0, 0, 0, 0, 0), y.feed(0, 0, 0, 0, 0));
        Due.is(when + ", chance(9)", x.chance(9), y.chance(9));
        for (int what = 3; what <= 10; what++) {
            Due.is(when + ", then has(" + what + ")", x.has(what), y.has(what));
        }
        boolean back = true;
        for (int k = 0; k < 25 && back; k++) {
            back = y.undo();
            Due.is(when + ", undo()", x.undo(), back);
            for (int what = 3; what <= 10; what++) {
                Due.is(when + ", undone has(" + what + ")", x.has(what), y.has(what));
            }
            Due.is(when + ", undone stake", x.stake(0, 0), y.stake(0, 0));
            Due.is(when + ", undone age", x.fence(1, 0), y.fence(1, 0));
        }
    }

    /** One object is refused something (so many times, of that kind); its twin is not asked. */
    private static void leaves(String call, int kind, int times, Consumer<WalkFence> way, Consumer<WalkFence> refused) {
        WalkFence x = new WalkFence();
        WalkFence y = new WalkFence();
        way.accept(x);
        way.accept(y);
        int[] counts = new int[6];
        for (int what = 0; what < 6; what++) {
            counts[what] = x.status(what) + (what == kind ? times : 0);
        }
        refused.accept(x);
        for (int what = 0; what < 6; what++) {
            Due.is("status(" + what + ") behind " + call, x.status(what), counts[what]);
        }
        alike("behind " + call, x, y);
        goOn("behind " + call, x, y);
    }

    private static void refusedActs() {
        Due.about("promises 23, 24, 25: refused (2)");
        leaves("set(2)", 2, 1, RefusedTest::come, x -> Due.is("set(2)", x.set(2), false));
        leaves("set(-1)", 2, 1, RefusedTest::come, x -> Due.is("set(-1)", x.set(-1), false));
        leaves("cut(0) of one that is", 2, 1, RefusedTest::come, x -> Due.is("cut(0)", x.cut(0), false));
        leaves("cut(2)", 2, 1, RefusedTest::come, x -> Due.is("cut(2)", x.cut(2), false));
        leaves("cut(-1)", 2, 1, RefusedTest::come, x -> Due.is("cut(-1)", x.cut(-1), false));
        leaves("iron(0, 2), driven in", 2, 1, RefusedTest::come, x -> Due.is("iron(0, 2)", x.iron(0, 2), -1));
        leaves("iron(1, 4), told", 2, 1, RefusedTest::come, x -> Due.is("iron(1, 4)", x.iron(1, 4), -1));
        leaves("iron(2, 0)", 2, 1, RefusedTest::come, x -> Due.is("iron(2, 0)", x.iron(2, 0), -1));
        leaves("iron(0, 5)", 2, 1, RefusedTest::come, x -> Due.is("iron(0, 5)", x.iron(0, 5), -1));
        leaves("iron(-1, -1)", 2, 1, RefusedTest::come, x -> Due.is("iron(-1, -1)", x.iron(-1, -1), -1));
        leaves("a 25th", 2, 1, RefusedTest::comeWithPosts, x -> Due.is("iron(0, 29)", x.iron(0, 29), -1));
    }

    private static void comeWithPosts(WalkFence x) {
        Due.slope(x, "slope 2 by 30;fence f row 3 age 3;fence g row 0 age 4;");
        for (int k = 0; k < 24; k++) {
            x.iron(k % 2, k / 2);
        }
    }

    private static void refusedYears() {
        Due.about("promises 26, 27: refused (3)");
        int[] wrong = {Integer.MIN_VALUE, -1, 0, 101, Integer.MAX_VALUE};
        for (int n : wrong) {
            leaves("years(" + n + ")", 3, 1, RefusedTest::come, x -> Due.is("years(" + n + ")", x.years(n), -1));
            leaves("chance(" + n + ")", 3, 1, RefusedTest::come, x -> Due.is("chance(" + n + ")", x.chance(n), -1));
        }
        leaves("years(3) in 997", 3, 1, RefusedTest::comeLate, x -> Due.is("years(3)", x.years(3), -1));
        leaves("years(100) in 997", 3, 1, RefusedTest::comeLate, x -> Due.is("years(100)", x.years(100), -1));
        leaves("chance(3) in 997", 3, 1, RefusedTest::comeLate, x -> Due.is("chance(3)", x.chance(3), -1));
        leaves("chance(100) in 997", 3, 1, RefusedTest::comeLate, x -> Due.is("chance(100)", x.chance(100), -1));
    }

    private static void comeLate(WalkFence x) {
        Due.slope(x, SLOPE);
        Due.is("on()", Due.takes(x, Due.checked(3, 228, 1, 0, 0, 5, 0, 1, 2, 6, 1, 3, 255)), true);
        Due.is("to YEAR 997", x.years(1), 0);
        x.cut(0);
    }

    private static void refusedUndo() {
        Due.about("promise 28: refused (4)");
        leaves("undo()", 4, 3, x -> Due.slope(x, SLOPE), x -> {
            for (int k = 0; k < 3; k++) {
                Due.is("undo()", x.undo(), false);
            }
        });
        leaves("undo() behind on()", 4, 1, x -> {
            come(x);
            Due.takes(x, Due.imageOf(x));
        }, x -> Due.is("undo()", x.undo(), false));
    }

    private static void refusedSeed() {
        Due.about("promise 29: refused (5)");
        leaves("seed(-1)", 5, 1, RefusedTest::come, x -> Due.is("seed(-1)", x.seed(-1), false));
        leaves("seed() of the least", 5, 1, RefusedTest::come,
            x -> Due.is("seed()", x.seed(Integer.MIN_VALUE), false));
    }

    private static void refusedTapes() {
        Due.about("promises 2, 3: refused (0)");
        leaves("end(-1)", 0, 1, RefusedTest::comeWithTape, x -> Due.is("end(-1)", x.end(-1), false));
        leaves("end(38)", 0, 1, RefusedTest::comeWithTape, x -> Due.is("end(38)", x.end(38), false));
        leaves("end(1) of none", 0, 1, RefusedTest::come, x -> Due.is("end(1)", x.end(1), false));
        WalkFence y = new WalkFence();
        comeWithTape(y);
        y.end(-1);
        y.end(38);
        Due.is("the bytes stay", y.ask(), 0);
        Due.is("no FAULT", y.fault(0), 0);
        WalkFence full = new WalkFence();
        come(full);
        String question = "often left=9";
        Due.tape(full, Due.bytesOf(question + Due.many(1600 - question.length(), " ")));
        Due.is("feed() beyond", full.feed(-1, -1, -1, -1, -1), -1);
        Due.is("the bytes stay", full.ask(), 0);
        Due.is("no FAULT", full.fault(0), 0);
    }

    private static void comeWithTape(WalkFence x) {
        come(x);
        Due.tape(x, Due.bytesOf("often left=9" + Due.many(25, " ")));
    }

    private static void refusedSlopes() {
        Due.about("promise 4: refused (1), with a FAULT all stays");
        String[] wrong = {OTHER + "tide 101;", OTHER + "fence q", OTHER + "walks 1;", OTHER + ")", OTHER + "iron 0 0;", "", "x",
            OTHER.substring(0, OTHER.length() - 1), "slope 6 by 30;iron 5 29;fence zzzzzz row 29 age 99;stake zzzzzz 5 row 0",
            "slope 2 by 5;roots [[[[[[[", "slope 1 by 4;steep 0 9;tide 0;walks 0;stake f 0 row 0;"};
        for (String text : wrong) {
            // The twin has the same FAULT of a slope() behind it, by a text that tells nothing.
            WalkFence x = new WalkFence();
            WalkFence y = new WalkFence();
            come(x);
            come(y);
            Due.is("slope() of " + text, Due.slope(x, text), -1);
            Due.slope(y, "");
            int kind = x.fault(0);
            Due.is("fault(0) of " + text, kind >= 1 && kind <= 5, true);
            Due.is("status(1) of " + text, x.status(1), 1);
            // Of the latest: one and the same question with a FAULT.
            Due.ask(x, "often");
            Due.ask(y, "often");
            alike("behind slope() of " + text, x, y);
            goOn("behind slope() of " + text, x, y);
        }
    }

    private static void refusedSeen() {
        Due.about("promise 20: refused (1), all staying");
        int[][] wrong = {{}, {0}, {0, 0, 0, 0}, {2, 0, 0}, {0, 5, 0}, {0, 0, 2}, {0, 0, 0, 0, 0, 0, 1, 1, 9}, new int[51]};
        for (int[] bytes : wrong) {
            leaves("see() of " + bytes.length, 1, 1, RefusedTest::come, x -> Due.is("see()", Due.sees(x, bytes), -1));
        }
    }

    private static void refusedImages() {
        Due.about("promise 33: refused (5), all staying");
        int[][] wrong = {{}, {0, 0, 0, 23}, Due.checked(0, 0, 0, 0, 0, 0, 0, 0, 0, 0, 5), Due.checked(3, 232, 0, 0, 0, 0, 0, 0, 0, 0, 0),
            Due.checked(0, 0, 0, 100, 0, 0, 0, 0, 0, 0, 0), Due.checked(0, 0, 0, 0, 0, 0, 0, 0, 2, 0, 0),
            Due.checked(0, 0, 2, 0, 0, 0, 0, 0, 0, 0, 0, 0, 0, 0, 0), {0, 0, 0, 0, 0, 0, 0, 0, 0, 0, 0, 0}, new int[1600]};
        for (int[] bytes : wrong) {
            leaves("on() of " + bytes.length, 5, 1, RefusedTest::comeEmpty, x -> {
                Due.is("on()", Due.takes(x, bytes), false);
                Due.is("the tape is gone", x.feed(0, 0, 0, 0, 0), 20);
                x.end(0);
            });
        }
    }

    private static void comeEmpty(WalkFence x) {
        come(x);
        x.end(0);
    }

    private static void askedInVain() {
        Due.about("promise 30: a FAULT is not refused; promises 6 to 22: NONE is not refused");
        leaves("what there is none of", -1, 0, RefusedTest::come, x -> {
            x.has(11);
            x.fault(2);
            x.letter(9, 9);
            x.place(9, 9, 9);
            x.fence(9, 0);
            x.stake(9, 0);
            x.walks(0, 9);
            x.kept(99, 0);
            x.later(0, 61, 0);
            x.whose(0, 0, 61);
            x.meets(1, 1);
            x.below(1, 1);
            x.sets(0, 31, 0);
            x.irons(0, 21, 0);
            x.rest(31);
            x.fits(3);
            x.tells(3);
            x.octet(99);
            x.status(6);
            Due.ask(x, "total ((((((((1");
        });
    }

    private static void withoutASlope() {
        Due.about("promises 20, 23 to 27, 33: without a slope");
        Consumer<WalkFence> none = x -> x.seed(31);
        leaves("set(0)", 2, 1, none, x -> Due.is("set(0)", x.set(0), false));
        leaves("cut(0)", 2, 1, none, x -> Due.is("cut(0)", x.cut(0), false));
        leaves("iron(0, 0)", 2, 1, none, x -> Due.is("iron(0, 0)", x.iron(0, 0), -1));
        leaves("years(1)", 3, 1, none, x -> Due.is("years(1)", x.years(1), -1));
        leaves("undo()", 4, 1, none, x -> Due.is("undo()", x.undo(), false));
        leaves("see()", 1, 1, none, x -> Due.is("see()", Due.sees(x, 0, 0, 255), -1));
        leaves("on()", 5, 1, none, x -> Due.is("on()", Due.takes(x, 0, 0, 0, 23), false));
        leaves("ask()", -1, 0, none, x -> Due.is("ask()", Due.ask(x, "often") == WalkFence.NOTHING, true));
        WalkFence x = new WalkFence();
        WalkFence y = new WalkFence();
        Due.is("chance(9)", x.chance(9), -1);
        Due.slope(x, SLOPE);
        Due.slope(y, SLOPE);
        Due.is("the seed stays", x.chance(9), y.chance(9));
        alike("behind chance(9)", x, y);
    }
}
