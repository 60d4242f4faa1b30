/** The edges that the document names for what comes AHEAD and what is SEEN: promises 13 to 22, terms III. */
final class AheadEdgesTest {
    private static final int NONE = WalkFence.NONE;
    private static final int LEAST = Integer.MIN_VALUE;
    private static final int MOST = Integer.MAX_VALUE;
    /** Behind n YEARS its one stake is in row n; from 30 on it is GONE. */
    private static final String LONE = "slope 1 by 30;fence f row 0 age 0;";
    private static final String STILL = "slope 2 by 5;fence f row 1 age 3;fence g row 2 age 4;walks 0;";

    private AheadEdgesTest() {
    }

    public static void main(String[] args) {
        laterEdges();
        laterYears();
        whoseEdges();
        notBeyondYear999();
        meetsEdges();
        meetsInTime();
        belowEdges();
        setsEdges();
        setsBest();
        setsAheadOfBeingSet();
        ironsEdges();
        ironsFirst();
        ironsGreaterThanWithout();
        ironsTwentyFour();
        restEdges();
        restFewest();
        restNone();
        behindALargerSlope();
        seeEdges();
        seeRows();
        fitsEdges();
        fitsThirty();
        tellsEdges();
        tellsFirst();
        nothingIsDone();
        Due.end();
    }

    private static void laterEdges() {
        Due.about("promise 13: NONE when there is none such, n can't be, or for others");
        WalkFence x = Due.on(STILL);
        int[] fences = {LEAST, -1, 2, 6, MOST};
        int[] years = {LEAST, -1, 61, 62, 999, MOST};
        int[] whats = {LEAST, -1, 3, 4, MOST};
        for (int n = 0; n <= 60; n += 60) {
            for (int what = 0; what < 3; what++) {
                for (int fence : fences) {
                    Due.is("later(" + fence + ", " + n + ", " + what + ")", x.later(fence, n, what), NONE);
                }
                for (int year : years) {
                    Due.is("later(0, " + year + ", " + what + ")", x.later(0, year, what), NONE);
                }
            }
            for (int what : whats) {
                Due.is("later(0, " + n + ", " + what + ")", x.later(0, n, what), NONE);
            }
            Due.is("FIELD behind " + n, x.later(0, n, 0), 2);
            Due.is("stakes behind " + n, x.later(1, n, 1), 2);
            Due.is("age behind " + n, x.later(1, n, 2), 4 + n);
        }
    }

    private static void laterYears() {
        Due.about("promise 13: behind n YEARS AHEAD (0 .. 60)");
        WalkFence x = Due.on(LONE + "tide 100;");
        for (int n = 0; n <= 60; n++) {
            Due.is("FIELD behind " + n, x.later(0, n, 0), Math.max(0, 30 - n));
            Due.is("stakes behind " + n, x.later(0, n, 1), n < 30 ? 1 : 0);
            Due.is("age behind " + n, x.later(0, n, 2), n);
        }
        x.cut(0);
        Due.is("CUT, now", x.later(0, 0, 0), 30);
        Due.is("CUT, the first YEAR", x.later(0, 1, 0), 30);
        Due.is("CUT, the second", x.later(0, 2, 0), 29);
        Due.is("CUT still", x.has(6), 1);
    }

    private static void whoseEdges() {
        Due.about("promise 14: NONE when it is MOOR then, there is none such, or n can't be");
        WalkFence x = Due.on(LONE);
        int[] columns = {LEAST, -1, 1, 6, MOST};
        int[] rows = {LEAST, -1, 30, 31, MOST};
        int[] years = {LEAST, -1, 61, MOST};
        for (int n = 0; n <= 60; n++) {
            Due.is("whose(0, 29, " + n + ")", x.whose(0, 29, n), n < 30 ? 0 : NONE);
            Due.is("whose(0, " + n % 30 + ", " + n + ")", x.whose(0, n % 30, n), n < 30 ? 0 : NONE);
            Due.is("above it", x.whose(0, Math.min(29, n) - 1, n), NONE);
        }
        for (int k = 0; k < 5; k++) {
            Due.is("column " + columns[k], x.whose(columns[k], 29, 0), NONE);
            Due.is("row " + rows[k], x.whose(0, rows[k], 0), NONE);
        }
        WalkFence still = Due.on(STILL);
        for (int year : years) {
            Due.is("n " + year, still.whose(1, 4, year), NONE);
        }
        Due.is("the last place", still.whose(1, 4, 60), 1);
    }

    private static void notBeyondYear999() {
        Due.about("terms III: AHEAD are YEARS not beyond YEAR 999");
        for (int year = 935; year <= 999; year++) {
            WalkFence x = Due.onYear(STILL, year);
            int can = 999 - year;
            for (int n = can; n <= can + 1; n++) {
                Due.is("later in " + year, x.later(0, n, 0), n <= Math.min(can, 60) ? 2 : NONE);
                Due.is("whose in " + year, x.whose(1, 4, n), n <= Math.min(can, 60) ? 1 : NONE);
                Due.is("sets in " + year, x.sets(1, n, 1), n >= 1 && n <= Math.min(can, 30) ? 6 : NONE);
                Due.is("rest in " + year, x.rest(n), n >= 1 && n <= Math.min(can, 30) ? 0 : NONE);
            }
            Due.is("fits in " + year, x.fits(0), 1 + Math.min(can, 30));
            Due.is("the last fit in " + year, x.fits(2), Math.min(can, 30));
            Due.is("tells in " + year, x.tells(2), 1 + Math.min(can, 30));
        }
        for (int year = 975; year <= 999; year++) {
            WalkFence x = Due.onYear(LONE, year);
            int can = 999 - year;
            for (int n = can; n <= can + 1; n++) {
                Due.is("irons in " + year, x.irons(0, n, 2), n >= 1 && n <= Math.min(can, 20) ? 30 : NONE);
            }
        }
    }

    private static void meetsEdges() {
        Due.about("promise 15: NONE when they do not, there are none such, or they are one");
        WalkFence x = Due.on(STILL);
        int[] odd = {LEAST, -1, 2, 6, MOST};
        Due.is("they do not", x.meets(0, 1), NONE);
        Due.is("one", x.meets(0, 0), NONE);
        for (int fence : odd) {
            Due.is("meets(0, " + fence + ")", x.meets(0, fence), NONE);
            Due.is("meets(" + fence + ", 0)", x.meets(fence, 0), NONE);
            Due.is("meets(" + fence + ", " + fence + ")", x.meets(fence, fence), NONE);
        }
        Due.is("now, in the last column alone", Due.on(STILL + "stake f 1 row 2;").meets(1, 0), 0);
        WalkFence gone = Due.on("slope 1 by 5;fence f row 4 age 3;fence g row 4 age 4;");
        Due.is("now", gone.meets(0, 1), 0);
        gone.years(1);
        Due.is("GONE together", gone.meets(0, 1), NONE);
    }

    /** The first FENCE walks to the second one, which a POST holds, in the YEAR behind that one. */
    private static String meeting(int behind) {
        return "slope 1 by 9;iron 0 5;fence f row 0 age 0;fence g row 5 age 0;walks 5*max(0,year-" + behind + ");";
    }

    private static void meetsInTime() {
        Due.about("promise 15, terms III: YEARS AHEAD 60 at most, not beyond YEAR 999");
        Due.is("1", Due.on(meeting(0)).meets(0, 1), 2);
        Due.is("59", Due.on(meeting(57)).meets(0, 1), 59);
        Due.is("60", Due.on(meeting(58)).meets(0, 1), 60);
        Due.is("61", Due.on(meeting(59)).meets(0, 1), NONE);
        Due.is("to YEAR 999", Due.onYear(meeting(997), 990).meets(0, 1), 9);
        Due.is("beyond YEAR 999", Due.onYear(meeting(998), 990).meets(0, 1), NONE);
        Due.is("now in YEAR 999", Due.onYear(STILL + "stake f 0 row 2;", 999).meets(0, 1), 0);
    }

    private static void belowEdges() {
        Due.about("promise 16: NONE when there are none such, or they are one; BELOW is a greater row, where both stand");
        WalkFence x = Due.on("slope 3 by 5;steep 1 4;steep 2 0;fence f row 1 age 3;fence g row 1 age 4;stake f 1 row 0;"
                + "stake g 2 row 4;stake f 2 row 0;");
        int[] odd = {LEAST, -1, 2, 6, MOST};
        for (int fence : odd) {
            Due.is("below(0, " + fence + ")", x.below(0, fence), NONE);
            Due.is("below(" + fence + ", 0)", x.below(fence, 0), NONE);
            Due.is("below(" + fence + ", " + fence + ")", x.below(fence, fence), NONE);
        }
        Due.is("one", x.below(1, 1), NONE);
        Due.is("one row is not BELOW", x.below(1, 0), 2);
        Due.is("the other way", x.below(0, 1), 0);
        x.years(1);
        Due.is("of the two in column 1 one is GONE", x.below(1, 0), 1);
        Due.is("nor is it above", x.below(0, 1), 0);
    }

    private static void setsEdges() {
        Due.about("promise 17: NONE when there is none such, n can't be, or for others");
        WalkFence x = Due.on(LONE);
        int[] odd = {LEAST, -1, 1, 6, MOST};
        int[] years = {LEAST, -1, 0, 31, 32, 60, MOST};
        int[] whats = {LEAST, -1, 2, 3, MOST};
        for (int what = 0; what < 2; what++) {
            for (int fence : odd) {
                Due.is("sets(" + fence + ", 5, " + what + ")", x.sets(fence, 5, what), NONE);
            }
            for (int n : years) {
                Due.is("sets(0, " + n + ", " + what + ")", x.sets(0, n, what), NONE);
            }
        }
        for (int what : whats) {
            Due.is("sets(0, 5, " + what + ")", x.sets(0, 5, what), NONE);
        }
    }

    private static void setsBest() {
        Due.about("promise 17, terms III: behind 0 .. n - 1 YEARS, or not at all; of like ones not at all ahead of the least");
        WalkFence x = Due.on(LONE);
        // SET behind k of n YEARS the stake comes to row k, then to row n - k.
        for (int n = 1; n <= 30; n++) {
            Due.is("sets(0, " + n + ", 0)", x.sets(0, n, 0), n == 1 ? NONE : n / 2);
            Due.is("sets(0, " + n + ", 1)", x.sets(0, n, 1), 30 - (n + 1) / 2);
        }
        WalkFence fast = Due.on("slope 1 by 10;steep 0 2;fence f row 0 age 0;");
        Due.is("n - 1", fast.sets(0, 2, 0), 1);
        Due.is("its least", fast.sets(0, 2, 1), 8);
        WalkFence low = Due.on("slope 1 by 10;fence f row 9 age 0;");
        Due.is("0", low.sets(0, 1, 0), 0);
        Due.is("its FIELD", low.sets(0, 1, 1), 9);
        WalkFence still = Due.on("slope 2 by 5;fence f row 0 age 0;walks 0;");
        Due.is("like ones: not at all", still.sets(0, 30, 0), NONE);
        Due.is("its FIELD", still.sets(0, 30, 1), 10);
        WalkFence under = Due.on("slope 2 by 5;fence g row 0 age 0;fence f row 0 age 0;walks 0;");
        Due.is("a FIELD of 0: not at all", under.sets(1, 30, 0), NONE);
        Due.is("0 is its least", under.sets(1, 30, 1), 0);
        Due.is("the greatest FIELD", Due.on("slope 6 by 30;fence f row 0 age 0;walks 0;").sets(0, 30, 1), 180);
        // By its TEST it is SET behind the first YEAR anyway.
        WalkFence roots = Due.on("slope 1 by 9;fence f row 0 age 0;roots age=1;");
        Due.is("SET by the TEST", roots.sets(0, 9, 0), NONE);
        Due.is("its FIELD", roots.sets(0, 9, 1), 9);
    }

    private static void setsAheadOfBeingSet() {
        Due.about("terms III: its least FIELD, behind 1, 2, .. n YEARS (ahead of its being SET then); it alone");
        // SET at once 9, 8; behind 1 YEAR 6, 9; not at all 6, 5.
        WalkFence x = Due.on("slope 1 by 10;fence f row 3 age 0;");
        Due.is("sets(0, 2, 0)", x.sets(0, 2, 0), 0);
        Due.is("sets(0, 2, 1)", x.sets(0, 2, 1), 8);
        // Were both SET, the first one would have all.
        WalkFence two = Due.on("slope 1 by 10;iron 0 5;fence f row 5 age 0;fence g row 9 age 0;");
        Due.is("sets(1, 1, 0)", two.sets(1, 1, 0), 0);
        Due.is("it alone", two.sets(1, 1, 1), 4);
        WalkFence cut = Due.on("slope 1 by 10;fence f row 3 age 0;");
        cut.cut(0);
        Due.is("CUT and SET at once", cut.sets(0, 1, 1), 10);
    }

    private static void ironsEdges() {
        Due.about("promise 18: NONE when there is none such, n can't be, or for others");
        WalkFence x = Due.on(LONE);
        int[] odd = {LEAST, -1, 1, 6, MOST};
        int[] years = {LEAST, -1, 0, 21, 22, 60, MOST};
        int[] whats = {LEAST, -1, 3, 4, MOST};
        for (int what = 0; what < 3; what++) {
            for (int fence : odd) {
                Due.is("irons(" + fence + ", 5, " + what + ")", x.irons(fence, 5, what), NONE);
            }
            for (int n : years) {
                Due.is("irons(0, " + n + ", " + what + ")", x.irons(0, n, what), NONE);
            }
        }
        for (int what : whats) {
            Due.is("irons(0, 5, " + what + ")", x.irons(0, 5, what), NONE);
        }
        for (int n = 1; n <= 20; n++) {
            Due.is("column", x.irons(0, n, 0), 0);
            Due.is("row", x.irons(0, n, 1), 0);
            Due.is("FIELD", x.irons(0, n, 2), 30);
        }
    }

    private static void iron(String text, int fence, int n, int... due) {
        WalkFence x = Due.on(text);
        for (int what = 0; what < 3; what++) {
            Due.is("irons(" + fence + ", " + n + ", " + what + ") of " + text, x.irons(fence, n, what), due[what]);
        }
    }

    private static void ironsFirst() {
        Due.about("promise 18, terms III: of like ones the first, column by column");
        iron("slope 2 by 9;fence f row 5 age 0;stake f 1 row 0;", 0, 1, 0, 5, 4 + 8);
        iron("slope 2 by 9;steep 0 0;fence f row 5 age 0;stake f 1 row 0;", 0, 1, 1, 0, 4 + 9);
        iron("slope 6 by 30;fence f row 28 age 0;steep 0 0;steep 1 0;steep 2 0;steep 3 0;steep 4 0;", 0, 20, 5, 28, 12);
        // The first FENCE would come to the second one's place and have it; held in row 1, 2 or 3 it does not.
        iron("slope 1 by 9;iron 0 4;fence a row 1 age 0;fence b row 4 age 0;walks 3;", 1, 1, 0, 1, 5);
        // A greater one further on counts more than the first.
        iron("slope 2 by 9;steep 1 2;fence f row 1 age 0;", 0, 2, 1, 1, 8 + 6);
        // It walks by age: not at first, then so far that it is GONE, unless it is held on its way.
        iron("slope 1 by 9;fence f row 0 age 0;walks age*5;iron 0 0;stake f 0 row 1;", 0, 3, 0, 1, 8);
        // In the last row of the last column.
        iron("slope 2 by 9;steep 0 0;fence f row 8 age 0;", 0, 1, 1, 8, 1 + 1);
    }

    private static void ironsGreaterThanWithout() {
        Due.about("promise 18, terms III: a place without a POST, if a greater FIELD than without");
        iron(STILL, 0, 20, NONE, NONE, NONE);
        iron("slope 1 by 9;iron 0 5;fence f row 5 age 0;", 0, 20, NONE, NONE, NONE);
        iron("slope 2 by 9;iron 0 5;fence f row 5 age 0;", 0, 20, 1, 5, 8);
        // All of its stakes are GONE, and none roots again.
        WalkFence gone = Due.on("slope 1 by 4;fence f row 3 age 0;");
        gone.years(1);
        Due.is("GONE", gone.irons(0, 20, 0), NONE);
        // CUT it stays in the first YEAR anyway.
        WalkFence cut = Due.on("slope 1 by 9;fence f row 3 age 0;");
        cut.cut(0);
        Due.is("CUT, behind 1", cut.irons(0, 1, 0), NONE);
        Due.is("CUT, behind 2", cut.irons(0, 2, 1), 3);
        // With a FIELD of 0 by one row for both, a POST under the other's stake helps it.
        iron("slope 1 by 9;fence a row 3 age 0;fence b row 3 age 0;", 1, 5, NONE, NONE, NONE);
    }

    private static void ironsTwentyFour() {
        Due.about("promise 18: NONE when 24 POSTS are there");
        WalkFence x = Due.on("slope 2 by 30;fence f row 3 age 0;");
        for (int r = 6; r < 29; r++) {
            x.iron(1, r);
        }
        Due.is("23 POSTS", x.has(4), 23);
        Due.is("row", x.irons(0, 20, 1), 3);
        Due.is("FIELD", x.irons(0, 20, 2), 27 + 24);
        x.iron(0, 29);
        for (int what = 0; what < 3; what++) {
            Due.is("24 POSTS", x.irons(0, 20, what), NONE);
        }
        x.undo();
        Due.is("23 again", x.irons(0, 20, 1), 3);
    }

    private static void restEdges() {
        Due.about("promise 19: n YEARS AHEAD (1 .. 30); NONE when n can't be, or without a slope");
        int[] years = {LEAST, -1, 0, 31, 32, 60, MOST};
        WalkFence x = Due.on(STILL);
        for (int n : years) {
            Due.is("rest(" + n + ")", x.rest(n), NONE);
        }
        for (int n = 1; n <= 30; n++) {
            Due.is("rest(" + n + ")", x.rest(n), 0);
            Due.is("without FENCES", Due.on("slope 1 by 4;").rest(n), 0);
            Due.is("without a slope", new WalkFence().rest(n), NONE);
        }
    }

    private static void restFewest() {
        Due.about("promise 19, terms III: of the fewest, of like ones the least bits");
        // Behind 2 YEARS at rest are the third alone, or the first two.
        Due.is("of the fewest", Due.on("slope 1 by 4;fence a row 0 age 0;fence b row 1 age 0;fence c row 1 age 0;").rest(2), 4);
        // At rest are any of the first two alone, or the first and the third.
        String three = "slope 1 by 6;steep 0 2;fence a row 2 age 0;fence b row 2 age 0;fence c row 2 age 0;";
        Due.is("the least bits", Due.on(three).rest(1), 1);
        // At rest are the first and the third, or the second and the third.
        Due.is("the least bits of two",
                Due.on("slope 1 by 7;steep 0 4;fence a row 1 age 0;fence b row 0 age 0;fence c row 3 age 0;").rest(1), 5);
        WalkFence cut = Due.on(three);
        for (int f = 2; f >= 0; f--) {
            cut.cut(f);
            Due.is("whichever is CUT now", cut.rest(1), 1);
        }
        Due.is("all of them",
                Due.on("slope 1 by 4;fence a row 3 age 0;fence b row 0 age 99;").rest(1), 3);
        // Each that is not CUT is GONE behind 1 YEAR; behind 2 all are.
        StringBuilder six = new StringBuilder("slope 1 by 30;walks 9;");
        for (int f = 0; f < 6; f++) {
            six.append("fence ").append((char) ('a' + f)).append(" row ").append(24 + f).append(" age 0;");
            Due.is("all of " + (f + 1), Due.on(six.toString()).rest(1), (2 << f) - 1);
            Due.is("none of " + (f + 1), Due.on(six.toString()).rest(2), 0);
        }
    }

    /** What was AHEAD of a larger SLOPE is nothing to the next one. */
    private static void behindALargerSlope() {
        Due.about("promises 4, 13 to 22: behind a larger SLOPE");
        String two = "slope 1 by 6;steep 0 2;fence a row 2 age 0;fence b row 2 age 0;";
        WalkFence y = Due.on(two);
        for (int asked = 0; asked < 6; asked++) {
            WalkFence x = Due.on("slope 6 by 30;iron 0 2;iron 0 4;iron 5 3;fence a row 0 age 1;fence b row 1 age 1;fence c row 2 age 1;"
                    + "fence d row 3 age 1;fence e row 4 age 1;fence f row 3 age 1;walks 0;");
            ask(x, asked);
            Due.slope(x, two);
            Due.is("rest(1) behind " + asked, x.rest(1), y.rest(1));
            Due.is("fits(0) behind " + asked, x.fits(0), y.fits(0));
            for (int what = 0; what < 3; what++) {
                Due.is("later behind " + asked, x.later(1, 1, what), y.later(1, 1, what));
                Due.is("irons behind " + asked, x.irons(1, 1, what), y.irons(1, 1, what));
                Due.is("tells behind " + asked, x.tells(what), y.tells(what));
            }
            Due.is("whose behind " + asked, x.whose(0, 5, 2), y.whose(0, 5, 2));
            Due.is("sets behind " + asked, x.sets(1, 2, 1), y.sets(1, 2, 1));
            Due.is("meets behind " + asked, x.meets(1, 0), y.meets(1, 0));
            Due.is("MOOR behind " + asked, x.has(7), y.has(7));
        }
    }

    private static void ask(WalkFence x, int which) {
        switch (which) {
            case 0: x.later(0, 0, 0); break;
            case 1: x.rest(1); break;
            case 2: x.irons(1, 1, 0); break;
            case 3: x.tells(0); break;
            case 4: x.sets(1, 2, 0); break;
            default: x.meets(0, 1); break;
        }
    }

    private static void restNone() {
        Due.about("promise 19: NONE when no set is");
        String coast = "slope 3 by 8;steep 0 2;steep 2 0;iron 1 5;fence ann row 0 age 3;fence bob row 2 age 0;"
                + "stake bob 1 row 4;stake ann 2 row 6;walks steep+age/4;roots left<2;";
        Due.is("no set", Due.on(coast).rest(1), NONE);
    }

    private static void seeEdges() {
        Due.about("promise 20: NONE, refused (1), all staying, when it is none such, or without a slope");
        WalkFence x = Due.on(STILL);
        Due.is("see()", Due.sees(x, 1, 4, 1, 0, 0, 255), 2);
        int[][] wrong = {{}, {0}, {0, 0}, {0, 0, 0, 0}, {0, 0, 0, 0, 0}, {2, 0, 0}, {255, 0, 0}, {0, 5, 0}, {0, 255, 0},
            {0, 0, 2}, {0, 0, 6}, {0, 0, 254}, {0, 0, 0, 0, 0, 0, 2, 0, 0}, {0, 0, 0, 0, 0, 9}};
        for (int k = 0; k < wrong.length; k++) {
            Due.is("wrong " + k, Due.sees(x, wrong[k]), NONE);
            Due.is("status(1)", x.status(1), k + 1);
            Due.is("has(9)", x.has(9), 2);
        }
        Due.is("they still fit", x.fits(0), 31);
        Due.is("the edges", Due.sees(x, 0, 0, 0, 1, 4, 1, 1, 0, 255), 3);
        Due.is("none fits these", x.fits(0), 0);
        WalkFence none = new WalkFence();
        Due.is("without a slope", Due.sees(none, 0, 0, 255), NONE);
        Due.is("status(1)", none.status(1), 1);
        WalkFence bare = Due.on("slope 1 by 4;");
        Due.is("without FENCES: MOOR", Due.sees(bare, 0, 3, 255), 1);
        Due.is("without FENCES: FENCE 0", Due.sees(bare, 0, 3, 0), NONE);
    }

    private static void seeRows() {
        Due.about("promise 20: 1 to 16 rows of three bytes");
        for (int rows = 0; rows <= 20; rows++) {
            WalkFence x = Due.on(LONE);
            boolean may = rows >= 1 && rows <= 16;
            int[] bytes = new int[3 * rows];
            for (int k = 0; k < rows; k++) {
                // Rows 0 .. above the stake tell in turn less; the last one tells most.
                bytes[3 * k + 1] = k;
                bytes[3 * k + 2] = 255;
            }
            Due.is(rows + " rows", Due.sees(x, bytes), may ? rows : NONE);
            Due.is("has(9)", x.has(9), may ? rows : 0);
            Due.is("the first fit", x.fits(1), may ? rows : 0);
        }
        WalkFence columns = Due.on("slope 3 by 9;steep 0 0;steep 1 2;fence f row 0 age 0;");
        Due.sees(columns, 0, 0, 0, 1, 3, 255, 2, 2, 0);
        Due.is("each of its column", columns.fits(0), 1);
        Due.is("behind 2", columns.fits(1), 2);
        WalkFence y = Due.on(LONE);
        Due.sees(y, 0, 1, 255, 0, 2, 255);
        Due.is("instead of those", Due.sees(y, 0, 0, 255), 1);
        Due.is("the first fit", y.fits(1), 1);
    }

    private static void fitsEdges() {
        Due.about("promise 21: all, if nothing is SEEN; NONE of these without; NONE without a slope, or for others");
        int[] whats = {LEAST, -1, 3, 4, MOST};
        int[] all = {31, 0, 30};
        int[] none = {0, NONE, NONE};
        WalkFence x = Due.on(STILL);
        WalkFence y = Due.on(STILL);
        Due.sees(y, 0, 4, 1, 0, 4, 0);
        for (int what = 0; what < 3; what++) {
            Due.is("nothing is SEEN: fits(" + what + ")", x.fits(what), all[what]);
            Due.is("none fits: fits(" + what + ")", y.fits(what), none[what]);
            Due.is("without a slope", new WalkFence().fits(what), NONE);
        }
        for (int what : whats) {
            Due.is("fits(" + what + ")", x.fits(what), NONE);
            Due.is("tells(" + what + ")", x.tells(what), NONE);
        }
    }

    private static void fitsThirty() {
        Due.about("promise 21, terms III: YEARS AHEAD 0 .. 30");
        WalkFence x = Due.on(LONE);
        // The last row is MOOR, when the stake is GONE: from 30 on.
        Due.sees(x, 0, 29, 255);
        int[] last = {1, 30, 30};
        for (int what = 0; what < 3; what++) {
            Due.is("fits(" + what + ")", x.fits(what), last[what]);
        }
        x.cut(0);
        Due.is("31 is too far", x.fits(0), 0);
        x.years(2);
        int[] then = {2, 29, 30};
        for (int what = 0; what < 3; what++) {
            Due.is("from now on: fits(" + what + ")", x.fits(what), then[what]);
        }
        Due.sees(x, 0, 0, 0);
        Due.is("it is no more so", x.fits(0), 0);
        x.undo();
        Due.sees(x, 0, 0, 0);
        Due.is("now and, CUT, behind 1", x.fits(0), 2);
        Due.is("now", x.fits(1), 0);
        Due.is("behind 1", x.fits(2), 1);
    }

    private static void tellsEdges() {
        Due.about("promise 22: NONE without any, without a slope, or for others");
        WalkFence none = Due.on(LONE);
        Due.sees(none, 0, 4, 0, 0, 4, 255);
        WalkFence one = Due.on(LONE);
        Due.sees(one, 0, 7, 0, 0, 6, 255);
        int[] due = {0, 0, 1};
        for (int what = 0; what < 3; what++) {
            Due.is("without any: tells(" + what + ")", none.tells(what), NONE);
            Due.is("without a slope", new WalkFence().tells(what), NONE);
            Due.is("one YEAR alone: tells(" + what + ")", one.tells(what), due[what]);
        }
    }

    private static void tellsFirst() {
        Due.about("promise 22, terms III: the most left are fewest; of like ones the first, column by column");
        WalkFence x = Due.on(LONE);
        // Row r is the FENCE's behind 0 .. r; of 31 YEARS 16 are left by row 14, or by row 15.
        Due.is("row", x.tells(1), 14);
        Due.is("left", x.tells(2), 16);
        WalkFence columns = Due.on("slope 3 by 30;steep 0 0;fence f row 0 age 0;");
        Due.is("the first column that tells", columns.tells(0), 1);
        Due.is("its row", columns.tells(1), 14);
        WalkFence still = Due.on(STILL);
        Due.is("none tells anything: column", still.tells(0), 0);
        Due.is("none tells anything: row", still.tells(1), 0);
        Due.is("none tells anything: left", still.tells(2), 31);
        // Row 25 is of f for one YEAR, of the five others for 5 each, then MOOR for 5; row 24 is MOOR for 6.
        StringBuilder six = new StringBuilder("slope 2 by 30;steep 0 0;");
        for (int f = 0; f < 6; f++) {
            six.append("fence ").append((char) ('a' + f)).append(" row 0 age 0;stake ").append((char) ('a' + f)).append(" 1 row ")
                    .append(5 * f).append(';');
        }
        WalkFence many = Due.on(six.toString());
        Due.is("of six: column", many.tells(0), 1);
        Due.is("of six: row", many.tells(1), 25);
        Due.is("of six: left", many.tells(2), 5);
        // The 6th FENCE alone stands: row r is its for r YEARS, then MOOR.
        WalkFence sixth = Due.on("slope 1 by 30;fence a row 29 age 0;fence b row 29 age 0;fence c row 29 age 0;fence d row 29 age 0;"
                + "fence e row 29 age 0;fence f row 0 age 0;");
        sixth.years(1);
        Due.is("the 6th alone: row", sixth.tells(1), 15);
        Due.is("the 6th alone: left", sixth.tells(2), 16);
        // Behind 0, 1, 2 row 3 is of g, f, f, then MOOR, for 28 of them; row 2 is MOOR for 29.
        WalkFence three = Due.on("slope 1 by 4;fence f row 1 age 0;fence g row 3 age 0;");
        Due.sees(three, 0, 0, 255);
        Due.is("all fit", three.fits(0), 31);
        Due.is("row", three.tells(1), 3);
        Due.is("left", three.tells(2), 28);
    }

    private static void nothingIsDone() {
        Due.about("promises 13 to 22: what is AHEAD is asked, not done");
        String text = "slope 2 by 5;fence f row 4 age 3;fence g row 2 age 4;tide 50;roots left=0;";
        WalkFence x = Due.on(text);
        WalkFence y = Due.on(text);
        x.cut(1);
        y.cut(1);
        x.later(0, 60, 0);
        x.whose(0, 0, 60);
        x.meets(0, 1);
        x.sets(0, 30, 0);
        x.irons(0, 20, 0);
        x.rest(30);
        x.fits(0);
        x.tells(0);
        for (int what = 0; what <= 10; what++) {
            Due.is("has(" + what + ")", x.has(what), y.has(what));
        }
        int[] is = Due.imageOf(x);
        int[] due = Due.imageOf(y);
        for (int k = 0; k < due.length; k++) {
            Due.is("octet(" + k + ")", is[k], due[k]);
        }
        Due.is("the seed stays", x.chance(50), y.chance(50));
        Due.is("stakes", x.has(5), y.has(5));
        Due.is("KEPT", x.has(8), y.has(8));
    }
}
