/** The edges that the document names for how all lies, YEARS and ACTS: promises 1, 6, 8 to 12, 23 to 29, terms II. */
final class YearEdgesTest {
    private static final int NONE = WalkFence.NONE;
    private static final int LEAST = Integer.MIN_VALUE;
    private static final int MOST = Integer.MAX_VALUE;

    private YearEdgesTest() {
    }

    public static void main(String[] args) {
        newObject();
        hasOthers();
        hasEmptyAndFull();
        placeEdges();
        nearestAbove();
        fenceEdges();
        stakeEdges();
        walksEdges();
        keptEdges();
        keptLast();
        keptOnce();
        beyondTheLastRow();
        paces();
        firstPost();
        postInTheLastRow();
        oldest();
        cutTillTheYearIsOver();
        rootsByNumbers();
        lastYear();
        setEdges();
        cutEdges();
        ironEdges();
        twentyFourPosts();
        yearsEdges();
        chanceEdges();
        belowTide();
        leastAndGreatestDraw();
        drawOfFencesAndColumns();
        drawsAreMade();
        tideInRowZero();
        undoLast();
        undoKept();
        undoTwenty();
        undoNone();
        seedEdges();
        Due.end();
    }

    private static void newObject() {
        Due.about("promise 1: no slope, no fences");
        WalkFence x = new WalkFence();
        for (int what = 0; what <= 10; what++) {
            Due.is("has(" + what + ")", x.has(what), 0);
        }
        for (int what = 0; what < 4; what++) {
            Due.is("place", x.place(0, 0, what), NONE);
            Due.is("fence", x.fence(0, what), NONE);
            Due.is("kept", x.kept(0, what), NONE);
            Due.is("later", x.later(0, 0, what), NONE);
            Due.is("sets", x.sets(0, 1, what), NONE);
            Due.is("irons", x.irons(0, 1, what), NONE);
            Due.is("fits", x.fits(what), NONE);
            Due.is("tells", x.tells(what), NONE);
        }
        Due.is("letter", x.letter(0, 0), NONE);
        Due.is("stake", x.stake(0, 0), NONE);
        Due.is("walks", x.walks(0, 0), NONE);
        Due.is("whose", x.whose(0, 0, 0), NONE);
        Due.is("meets", x.meets(0, 1), NONE);
        Due.is("below", x.below(0, 1), NONE);
        Due.is("rest", x.rest(1), NONE);
        Due.is("octet", x.octet(0), NONE);
        for (int what = 0; what < 6; what++) {
            Due.is("status(" + what + ")", x.status(what), 0);
        }
        Due.is("set", x.set(0), false);
        Due.is("cut", x.cut(0), false);
        Due.is("iron", x.iron(0, 0), NONE);
        Due.is("years", x.years(1), NONE);
        Due.is("chance", x.chance(1), NONE);
        Due.is("undo", x.undo(), false);
        int[] refused = {0, 0, 3, 2, 1, 0};
        for (int what = 0; what < 6; what++) {
            Due.is("status(" + what + ")", x.status(what), refused[what]);
        }
    }

    private static void hasOthers() {
        Due.about("promise 6: NONE for others");
        int[] others = {LEAST, -2, -1, 11, 12, MOST};
        for (int other : others) {
            Due.is("has(" + other + ")", new WalkFence().has(other), NONE);
            Due.is("has(" + other + ")", Due.on("slope 1 by 4;fence f row 0 age 0;").has(other), NONE);
        }
    }

    private static void hasEmptyAndFull() {
        Due.about("promise 6: none, and as many as can be");
        int[] none = {1, 4, 0, 0, 0, 0, 0, 4, 0, 0, 0};
        WalkFence x = Due.on("slope 1 by 4;");
        WalkFence y = full();
        int[] full = {6, 30, 6, 40, 24, 36, 6, 0, 40, 16, 20};
        Due.sees(y, new int[48]);
        for (int what = 0; what <= 10; what++) {
            Due.is("none: has(" + what + ")", x.has(what), none[what]);
            Due.is("full: has(" + what + ")", y.has(what), full[what]);
        }
        WalkFence z = Due.on("slope 6 by 30;fence f row 29 age 0;");
        Due.is("MOOR above", z.has(7), 174);
        z.years(1);
        Due.is("all is MOOR", z.has(7), 180);
        Due.is("none stands", z.has(5), 0);
        Due.is("KEPT", z.has(8), 6);
    }

    private static WalkFence full() {
        StringBuilder text = new StringBuilder("slope 6 by 30;");
        for (char name = 'a'; name < 'g'; name++) {
            text.append("fence ").append(name).append(" row 0 age 0;");
        }
        WalkFence x = Due.on(text.append("walks 0;roots all;").toString());
        x.years(40);
        for (int k = 0; k < 24; k++) {
            x.iron(k % 6, k / 6);
        }
        for (int f = 0; f < 6; f++) {
            x.cut(f);
        }
        return x;
    }

    private static void placeEdges() {
        Due.about("promise 8: NONE when there is none such, or for others");
        WalkFence x = Due.on("slope 2 by 5;iron 1 4;fence f row 0 age 0;");
        int[] columns = {LEAST, -1, 2, 3, 6, MOST};
        int[] rows = {LEAST, -1, 5, 6, 30, MOST};
        int[] whats = {LEAST, -1, 3, 4, MOST};
        for (int what = 0; what < 3; what++) {
            for (int k = 0; k < 6; k++) {
                Due.is("column " + columns[k], x.place(columns[k], 0, what), NONE);
                Due.is("row " + rows[k], x.place(0, rows[k], what), NONE);
            }
        }
        for (int what : whats) {
            Due.is("what " + what, x.place(1, 4, what), NONE);
        }
        Due.is("the last place", x.place(1, 4, 0), 0);
        Due.is("the last place's POST", x.place(1, 4, 1), 1);
        Due.is("the last place's stakes", x.place(1, 4, 2), 0);
        Due.is("the first place", x.place(0, 0, 0), 0);
        Due.is("the first place's POST", x.place(0, 0, 1), 0);
        Due.is("the first place's stakes", x.place(0, 0, 2), 1);
    }

    private static void nearestAbove() {
        Due.about("terms II, promise 8: the stake nearest above it or on it, of like ones the first; of none: MOOR");
        WalkFence x = Due.on("slope 2 by 8;fence a row 5 age 0;fence b row 2 age 0;fence c row 2 age 0;fence d row 5 age 0;"
                + "stake c 1 row 0;stake a 1 row 7;");
        int[] first = {NONE, NONE, 1, 1, 1, 0, 0, 0};
        int[] second = {2, 2, 1, 1, 1, 3, 3, 0};
        int[] stakes = {0, 0, 2, 0, 0, 2, 0, 0};
        for (int r = 0; r < 8; r++) {
            Due.is("place(0, " + r + ", 0)", x.place(0, r, 0), first[r]);
            Due.is("place(1, " + r + ", 0)", x.place(1, r, 0), second[r]);
            Due.is("place(0, " + r + ", 2)", x.place(0, r, 2), stakes[r]);
        }
        int[] fields = {3 + 1, 3 + 3, 0 + 2, 0 + 2};
        for (int f = 0; f < 4; f++) {
            Due.is("FIELD of " + f, x.fence(f, 1), fields[f]);
        }
        Due.is("MOOR", x.has(7), 2);
        Due.is("six on one place", full().place(5, 0, 2), 6);
        Due.is("of six the first", full().place(5, 29, 0), 0);
    }

    private static void fenceEdges() {
        Due.about("promise 9: NONE when there is none such, or for others");
        WalkFence x = Due.on("slope 2 by 5;fence f row 1 age 7;fence g row 4 age 9;");
        int[] due = {9, 2, 2, 0};
        int[] odd = {LEAST, -1, 2, 6, MOST};
        int[] whats = {LEAST, -1, 4, 5, MOST};
        for (int what = 0; what < 4; what++) {
            Due.is("fence(1, " + what + ")", x.fence(1, what), due[what]);
            for (int fence : odd) {
                Due.is("fence(" + fence + ", " + what + ")", x.fence(fence, what), NONE);
            }
        }
        for (int what : whats) {
            Due.is("fence(0, " + what + ")", x.fence(0, what), NONE);
        }
        x.cut(1);
        Due.is("CUT", x.fence(1, 3), 1);
        x.years(2);
        Due.is("its FIELD when all are GONE", x.fence(1, 1), 0);
        Due.is("none stands", x.fence(1, 2), 0);
        Due.is("its age still", x.fence(1, 0), 11);
    }

    private static void stakeEdges() {
        Due.about("promise 10: NONE when it is GONE, or there is none such");
        WalkFence x = Due.on("slope 2 by 5;fence f row 4 age 7;fence g row 0 age 9;");
        int[] odd = {LEAST, -1, 2, 5, 6, MOST};
        for (int n : odd) {
            Due.is("stake(" + n + ", 0)", x.stake(n, 0), NONE);
            Due.is("stake(0, " + n + ")", x.stake(0, n), NONE);
            Due.is("walks(" + n + ", 0)", x.walks(n, 0), NONE);
            Due.is("walks(0, " + n + ")", x.walks(0, n), NONE);
        }
        Due.is("the last row", x.stake(0, 1), 4);
        Due.is("row 0", x.stake(1, 1), 0);
        x.years(1);
        Due.is("GONE", x.stake(0, 1), NONE);
        Due.is("walks of a stake that is GONE", x.walks(0, 1), NONE);
    }

    private static void walksEdges() {
        Due.about("promise 11: were nothing in its way (CUT or not)");
        WalkFence x = Due.on("slope 2 by 5;steep 1 9;iron 0 2;iron 1 3;fence f row 2 age 0;");
        Due.is("on a POST", x.walks(0, 0), 1);
        Due.is("a POST ahead, and the sea", x.walks(0, 1), 9);
        x.cut(0);
        Due.is("CUT", x.walks(0, 1), 9);
        Due.is("nothing walks by it", x.stake(0, 1), 2);
        WalkFence late = Due.onYear("slope 1 by 5;fence f row 2 age 99;walks year/111+age/99-row;", 999);
        Due.is("in YEAR 999", late.walks(0, 0), 8);
    }

    private static void keptEdges() {
        Due.about("promise 12: NONE when there is none such, or for others");
        WalkFence x = Due.on("slope 2 by 4;steep 1 0;fence f row 3 age 0;");
        Due.is("nothing is KEPT", x.kept(0, 0), NONE);
        x.years(1);
        int[] due = {0, 0, 0};
        int[] odd = {LEAST, -1, 1, 2, 40, MOST};
        int[] whats = {LEAST, -1, 3, 4, MOST};
        for (int what = 0; what < 3; what++) {
            Due.is("kept(0, " + what + ")", x.kept(0, what), due[what]);
            for (int k : odd) {
                Due.is("kept(" + k + ", " + what + ")", x.kept(k, what), NONE);
            }
        }
        for (int what : whats) {
            Due.is("kept(0, " + what + ")", x.kept(0, what), NONE);
        }
    }

    private static void keptLast() {
        Due.about("terms II, promise 12: the last 40 are told, from the oldest on");
        int[] years = {1, 39, 40, 41, 79, 80, 81, 100};
        for (int n : years) {
            WalkFence x = Due.on("slope 1 by 4;fence f row 3 age 0;walks 0;roots all;");
            Due.is("none is GONE", x.years(n), 0);
            int told = Math.min(40, n);
            Due.is("has(8) behind " + n, x.has(8), told);
            for (int k = 0; k < told; k++) {
                Due.is("YEAR of " + k + " behind " + n, x.kept(k, 0), n - told + k);
                Due.is("FENCE of " + k, x.kept(k, 1), 0);
                Due.is("SET " + k, x.kept(k, 2), 255);
            }
            Due.is("no more", x.kept(told, 0), NONE);
        }
        // More than 40 at once, and more ACTS behind the 40th.
        WalkFence y = full();
        Due.is("the oldest FENCE told", y.kept(0, 1), 2);
        Due.is("its YEAR", y.kept(0, 0), 33);
        Due.is("the latest FENCE told", y.kept(39, 1), 5);
        Due.is("its YEAR", y.kept(39, 0), 39);
        y.years(1);
        Due.is("six more", y.kept(0, 1), 2);
        Due.is("their YEAR", y.kept(39, 0), 40);
        Due.is("the oldest's YEAR", y.kept(0, 0), 34);
    }

    private static void keptOnce() {
        Due.about("terms II: KEPT is each stake that is GONE by walking, each FENCE that is SET by the TEST");
        WalkFence x = Due.on("slope 3 by 4;steep 1 0;fence a row 3 age 0;fence b row 3 age 0;roots left=1 and age=2;");
        Due.is("years(1)", x.years(1), 4);
        int[][] due = {{0, 0, 0}, {0, 0, 2}, {0, 1, 0}, {0, 1, 2}};
        same(x, due);
        Due.is("years(1)", x.years(1), 0);
        int[][] then = {{0, 0, 0}, {0, 0, 2}, {0, 1, 0}, {0, 1, 2}, {1, 0, 255}, {1, 1, 255}};
        same(x, then);
        x.set(0);
        x.cut(0);
        x.iron(0, 0);
        same(x, then);
    }

    private static void same(WalkFence x, int[][] due) {
        Due.is("has(8)", x.has(8), due.length);
        for (int k = 0; k < due.length; k++) {
            for (int what = 0; what < 3; what++) {
                Due.is("kept(" + k + ", " + what + ")", x.kept(k, what), due[k][what]);
            }
        }
    }

    private static void beyondTheLastRow() {
        Due.about("terms II: a stake is GONE, when it goes beyond the last row");
        for (int rows = 4; rows <= 30; rows += 13) {
            for (int row = rows - 4; row < rows; row++) {
                for (int steep = 0; steep <= 9; steep++) {
                    WalkFence x = Due.on("slope 1 by " + rows + ";steep 0 " + steep + ";fence f row " + row + " age 0;");
                    boolean gone = row + steep >= rows;
                    Due.is("years(1)", x.years(1), gone ? 1 : 0);
                    Due.is("from " + row + " of " + rows + " by " + steep, x.stake(0, 0), gone ? NONE : row + steep);
                    Due.is("stands", x.fence(0, 2), gone ? 0 : 1);
                    Due.is("FIELD", x.fence(0, 1), gone ? 0 : rows - row - steep);
                }
            }
        }
    }

    private static void paces() {
        Due.about("terms II: as many rows down as the SUM of walks, 0 .. 9 (below is 0, above 9)");
        for (int n = -12; n <= 12; n++) {
            WalkFence x = Due.on("slope 1 by 30;fence f row 3 age 0;walks " + (n < 0 ? "0-" + -n : "" + n) + ";");
            int due = Math.max(0, Math.min(9, n));
            Due.is("walks of " + n, x.walks(0, 0), due);
            x.years(1);
            Due.is("row by " + n, x.stake(0, 0), 3 + due);
        }
        Due.is("the greatest SUM", Due.on("slope 1 by 30;fence f row 3 age 0;walks 9999*9999;").walks(0, 0), 9);
        Due.is("the least SUM", Due.on("slope 1 by 30;fence f row 3 age 0;walks 0-9999*9999;").walks(0, 0), 0);
        WalkFence y = Due.on("slope 2 by 30;steep 1 2;fence f row 1 age 3;fence g row 2 age 0;walks age+year*10+row*steep;");
        y.years(1);
        Due.is("by what is ahead of it", y.stake(0, 0), 1 + 4);
        Due.is("of its column", y.stake(0, 1), 1 + 5);
        Due.is("of its FENCE", y.stake(1, 0), 2 + 2);
        Due.is("of both", y.stake(1, 1), 2 + 4);
        y.years(1);
        Due.is("in YEAR 1", y.stake(1, 0), 4 + 9);
    }

    private static void firstPost() {
        Due.about("terms II: it stops at the first POST of its column that it comes to; one on a POST stays");
        for (int post = 0; post < 30; post++) {
            WalkFence x = Due.on("slope 2 by 30;iron 0 " + post + ";fence f row 3 age 0;walks 4;");
            x.years(1);
            Due.is("a POST in row " + post, x.stake(0, 0), post < 3 || post > 7 ? 7 : post);
            Due.is("none in its column", x.stake(0, 1), 7);
            WalkFence y = Due.on("slope 2 by 30;fence f row 3 age 0;walks 4;");
            y.iron(0, post);
            Due.is("the same, driven in", y.later(0, 1, 0), 23 + 30 - x.stake(0, 0));
        }
        WalkFence two = Due.on("slope 1 by 30;iron 0 7;iron 0 5;iron 0 6;fence f row 3 age 0;walks 9;");
        two.years(1);
        Due.is("the first of three", two.stake(0, 0), 5);
        two.years(100);
        Due.is("it stays", two.stake(0, 0), 5);
        WalkFence none = Due.on("slope 1 by 30;iron 0 4;fence f row 3 age 0;walks 0;");
        none.years(1);
        Due.is("it does not come to it", none.stake(0, 0), 3);
    }

    private static void postInTheLastRow() {
        Due.about("terms II: POSTS in the last row and in row 0");
        WalkFence x = Due.on("slope 2 by 30;iron 0 29;fence f row 25 age 0;walks 9;");
        Due.is("one goes", x.years(1), 1);
        Due.is("held in the last row", x.stake(0, 0), 29);
        Due.is("it goes", x.stake(0, 1), NONE);
        Due.is("none goes", x.years(100), 0);
        WalkFence y = Due.on("slope 1 by 4;iron 0 0;fence f row 1 age 0;");
        y.set(0);
        Due.is("none goes from row 0", y.years(50), 0);
        Due.is("held in row 0", y.stake(0, 0), 0);
    }

    private static void oldest() {
        Due.about("terms II: each FENCE is a YEAR older (99 at most)");
        WalkFence x = Due.on("slope 1 by 4;steep 0 0;fence f row 0 age 97;fence g row 0 age 0;roots age>99;");
        int[] due = {97, 98, 99, 99, 99};
        for (int n = 0; n < 5; n++) {
            Due.is("age behind " + n, x.fence(0, 0), due[n]);
            Due.is("age of the other", x.fence(1, 0), n);
            Due.is("age AHEAD", x.later(0, 60, 2), 99);
            x.years(1);
        }
        x.years(100);
        Due.is("the other is 99", x.fence(1, 0), 99);
        WalkFence y = Due.on("slope 1 by 4;steep 0 0;fence f row 3 age 98;roots age>98;");
        y.years(1);
        Due.is("SET at 99", y.fence(0, 0), 0);
    }

    private static void cutTillTheYearIsOver() {
        Due.about("terms II: CUT till the YEAR is over");
        WalkFence x = Due.on("slope 1 by 9;fence f row 3 age 0;fence g row 3 age 0;roots age=1;");
        x.cut(0);
        Due.is("two are not CUT", x.has(6), 1);
        x.years(1);
        Due.is("it is SET though CUT", x.stake(0, 0), 0);
        Due.is("CUT no more", x.has(6), 0);
        WalkFence y = Due.on("slope 1 by 9;fence f row 3 age 0;fence g row 3 age 0;");
        y.cut(0);
        y.years(2);
        Due.is("CUT in the first YEAR alone", y.stake(0, 0), 4);
        Due.is("the other walks", y.stake(1, 0), 5);
        Due.is("older though CUT", y.fence(0, 0), 2);
        WalkFence z = Due.on("slope 1 by 9;fence f row 8 age 0;");
        z.cut(0);
        Due.is("none goes", z.years(1), 0);
        Due.is("then it goes", z.years(1), 1);
    }

    private static void rootsByNumbers() {
        Due.about("terms II: the TEST of roots, by numbers; steep of column 0; by the YEAR ahead of its end");
        WalkFence x = Due.on("slope 3 by 5;steep 0 0;steep 1 7;fence a row 4 age 0;fence b row 0 age 0;fence c row 4 age 0;"
                + "roots left=1 and steep=0 and year=0 and age=1;");
        x.years(1);
        same(x, new int[][] {{0, 0, 1}, {0, 0, 2}, {0, 1, 1}, {0, 2, 1}, {0, 2, 2}, {0, 0, 255}, {0, 2, 255}});
        Due.is("left 2 is not SET", x.fence(1, 0), 1);
        Due.is("SET", x.fence(0, 0), 0);
        Due.is("all its stakes", x.fence(0, 2), 3);
        Due.is("YEAR", x.has(3), 1);
        WalkFence none = Due.on("slope 1 by 4;fence f row 3 age 9;roots left=0;");
        Due.is("the last one goes", none.years(1), 1);
        Due.is("SET with none left", none.stake(0, 0), 0);
        // The SUM of walks asks the last column last, and the TEST asks column 0 still.
        WalkFence steep = Due.on("slope 3 by 30;steep 0 4;steep 1 5;steep 2 6;fence f row 0 age 0;walks steep;roots steep=4;");
        steep.years(1);
        Due.is("steep of column 0", steep.fence(0, 0), 0);
        WalkFence last = Due.onYear("slope 1 by 4;fence f row 0 age 9;roots year>997;", 997);
        last.years(1);
        Due.is("YEAR 997", last.fence(0, 0), 10);
        last.years(1);
        Due.is("YEAR 998", last.fence(0, 0), 0);
        Due.is("YEAR 999 has no end", last.years(1), NONE);
    }

    private static void lastYear() {
        Due.about("terms II, promises 26, 27: YEAR 999 at most");
        String text = "slope 1 by 9;fence f row 0 age 9;walks 0;";
        for (int year = 895; year <= 999; year++) {
            for (int n = 1; n <= 100; n += 33) {
                WalkFence x = Due.onYear(text, year);
                boolean may = year + n <= 999;
                Due.is("years(" + n + ") in " + year, x.years(n), may ? 0 : NONE);
                Due.is("status(3)", x.status(3), may ? 0 : 1);
                Due.is("YEAR", x.has(3), may ? year + n : year);
                WalkFence y = Due.onYear(text, year);
                Due.is("chance(" + n + ") in " + year, y.chance(n), may ? 0 : NONE);
                Due.is("YEAR", y.has(3), may ? year + n : year);
                Due.is("ACTS", y.has(10), may ? 1 : 0);
            }
        }
        WalkFence z = Due.on(text);
        for (int k = 1; k <= 9; k++) {
            z.years(100);
        }
        Due.is("years(100) in 900", z.years(100), NONE);
        Due.is("years(99) in 900", z.years(99), 0);
        Due.is("YEAR", z.has(3), 999);
        Due.is("set(0) in 999", z.set(0), true);
        Due.is("cut(0) in 999", z.cut(0), true);
        Due.is("iron(0, 0) in 999", z.iron(0, 0), 1);
    }

    private static void setEdges() {
        Due.about("promise 23: false, refused (2), when there is none such; SET is all stakes in row 0, age 0");
        WalkFence x = Due.on("slope 2 by 4;iron 1 0;fence a row 3 age 99;fence b row 2 age 7;");
        x.years(1);
        int[] odd = {LEAST, -1, 2, 6, MOST};
        for (int k = 0; k < odd.length; k++) {
            Due.is("set(" + odd[k] + ")", x.set(odd[k]), false);
            Due.is("status(2)", x.status(2), k + 1);
        }
        Due.is("ACTS", x.has(10), 1);
        Due.is("set(0)", x.set(0), true);
        for (int c = 0; c < 2; c++) {
            Due.is("row", x.stake(0, c), 0);
            Due.is("row of the other", x.stake(1, c), 3);
        }
        Due.is("age", x.fence(0, 0), 0);
        Due.is("age of the other", x.fence(1, 0), 8);
        Due.is("set(0) again", x.set(0), true);
        Due.is("ACTS", x.has(10), 3);
        Due.is("KEPT by walking alone", x.has(8), 2);
        Due.is("YEAR", x.has(3), 1);
    }

    private static void cutEdges() {
        Due.about("promise 24: false, refused (2), when it is, or there is none such");
        WalkFence x = Due.on("slope 2 by 4;fence a row 3 age 99;fence b row 2 age 7;");
        int[] odd = {LEAST, -1, 2, 6, 31, 32, 33, MOST};
        for (int k = 0; k < odd.length; k++) {
            Due.is("cut(" + odd[k] + ")", x.cut(odd[k]), false);
            Due.is("status(2)", x.status(2), k + 1);
        }
        Due.is("none is CUT", x.has(6), 0);
        Due.is("cut(1)", x.cut(1), true);
        Due.is("cut(1) again", x.cut(1), false);
        Due.is("status(2)", x.status(2), odd.length + 1);
        Due.is("ACTS", x.has(10), 1);
        Due.is("cut(0)", x.cut(0), true);
        Due.is("both are", x.has(6), 2);
        x.years(1);
        Due.is("one that is all GONE, and CUT again", x.cut(0), true);
    }

    private static void ironEdges() {
        Due.about("promise 25: NONE, refused (2), when one is there, or there is no such place");
        WalkFence x = Due.on("slope 2 by 5;iron 1 4;fence a row 3 age 99;");
        int[] columns = {LEAST, -1, 2, 6, MOST, 0, 0, 0, 0, 0, 0, 1};
        int[] rows = {0, 0, 0, 0, 0, LEAST, -1, 5, 30, 32, MOST, 4};
        for (int k = 0; k < columns.length; k++) {
            Due.is("iron(" + columns[k] + ", " + rows[k] + ")", x.iron(columns[k], rows[k]), NONE);
            Due.is("status(2)", x.status(2), k + 1);
        }
        Due.is("POSTS", x.has(4), 1);
        Due.is("ACTS", x.has(10), 0);
        Due.is("under a stake", x.iron(0, 3), 2);
        Due.is("there again", x.iron(0, 3), NONE);
        Due.is("the first place", x.iron(0, 0), 3);
        Due.is("POSTS", x.has(4), 3);
    }

    private static void twentyFourPosts() {
        Due.about("terms II, promise 25: 24 POSTS in all at most");
        StringBuilder text = new StringBuilder("slope 2 by 30;");
        for (int r = 0; r < 12; r++) {
            text.append("iron 0 ").append(r).append(';');
        }
        WalkFence x = Due.on(text.toString());
        for (int r = 0; r < 12; r++) {
            Due.is("iron(1, " + r + ")", x.iron(1, r), 13 + r);
        }
        Due.is("a 25th", x.iron(1, 29), NONE);
        Due.is("one that is there", x.iron(0, 0), NONE);
        Due.is("status(2)", x.status(2), 2);
        Due.is("POSTS", x.has(4), 24);
        Due.is("none is there", x.place(1, 29, 1), 0);
        Due.is("undo()", x.undo(), true);
        Due.is("POSTS", x.has(4), 23);
        Due.is("the 24th elsewhere", x.iron(1, 29), 24);
    }

    private static void yearsEdges() {
        Due.about("promise 26: n YEARS (1 .. 100): how many stakes are GONE by them");
        int[] odd = {LEAST, -100, -1, 0, 101, 102, 999, 1000, MOST};
        WalkFence x = Due.on("slope 1 by 4;fence a row 3 age 5;");
        for (int k = 0; k < odd.length; k++) {
            Due.is("years(" + odd[k] + ")", x.years(odd[k]), NONE);
            Due.is("status(3)", x.status(3), k + 1);
        }
        Due.is("YEAR", x.has(3), 0);
        Due.is("ACTS", x.has(10), 0);
        Due.is("age", x.fence(0, 0), 5);
        Due.is("years(1)", x.years(1), 1);
        Due.is("years(100)", x.years(100), 0);
        Due.is("YEAR", x.has(3), 101);
        Due.is("ACTS", x.has(10), 2);
        WalkFence many = Due.on("slope 6 by 4;fence a row 0 age 0;fence b row 3 age 0;");
        Due.is("six go", many.years(1), 6);
        Due.is("none goes", many.years(2), 0);
        Due.is("six more go", many.years(97), 6);
        Due.is("without FENCES", Due.on("slope 1 by 4;").years(100), 0);
        Due.is("without a slope", new WalkFence().years(1), NONE);
    }

    private static void chanceEdges() {
        Due.about("promise 27: n YEARS by the seed (1 .. 100), one ACT: how many tides");
        int[] odd = {LEAST, -100, -1, 0, 101, 102, 999, 1000, MOST};
        WalkFence x = Due.on("slope 1 by 4;fence a row 3 age 5;walks 0;tide 100;");
        for (int k = 0; k < odd.length; k++) {
            Due.is("chance(" + odd[k] + ")", x.chance(odd[k]), NONE);
            Due.is("status(3)", x.status(3), k + 1);
        }
        Due.is("YEAR", x.has(3), 0);
        Due.is("stakes", x.has(5), 1);
        Due.is("ACTS", x.has(10), 0);
        Due.is("chance(1)", x.chance(1), 1);
        Due.is("stakes", x.has(5), 0);
        same(x, new int[][] {{0, 0, 0}});
        Due.is("chance(100)", x.chance(100), 100);
        Due.is("YEAR", x.has(3), 101);
        Due.is("one ACT each", x.has(10), 2);
        Due.is("undo()", x.undo(), true);
        Due.is("all of it is undone", x.has(3), 1);
        Due.is("without FENCES", Due.on("slope 1 by 4;tide 100;").chance(100), 0);
        Due.is("without a slope", new WalkFence().chance(1), NONE);
        WalkFence ahead = Due.on("slope 1 by 4;fence a row 3 age 5;tide 100;roots left=0;");
        Due.is("a tide is ahead of its YEAR", ahead.chance(1), 1);
        same(ahead, new int[][] {{0, 0, 0}, {0, 0, 255}});
        Due.is("SET behind it", ahead.stake(0, 0), 0);
    }

    private static long next(long seed) {
        return (1103515245L * seed + 12345) % 2147483648L;
    }

    private static int drawn(long seed, int m) {
        return (int) (seed / 64 % m);
    }

    private static void belowTide() {
        Due.about("terms II: a DRAW of 100: below tide");
        int[] seeds = {0, 1, 2, 3, 63, 64, 65, 1000, 65535, 123456789, 1073741824, MOST - 1, MOST};
        for (int seed : seeds) {
            int draw = drawn(next(seed), 100);
            for (int tide = Math.max(0, draw - 1); tide <= Math.min(100, draw + 2); tide++) {
                WalkFence x = Due.on("slope 1 by 4;fence a row 3 age 5;walks 0;tide " + tide + ";");
                Due.is("seed(" + seed + ")", x.seed(seed), true);
                Due.is("tide " + tide + " by " + draw, x.chance(1), draw < tide ? 1 : 0);
                Due.is("stakes", x.has(5), draw < tide ? 0 : 1);
            }
        }
    }

    /** The least and the greatest that a DRAW of 100 gives. */
    private static void leastAndGreatestDraw() {
        Due.about("terms I, II: a DRAW of 0 is not below tide 0, nor without one; a DRAW of 99 is below tide 100 alone");
        int least = 0;
        int greatest = 0;
        while (drawn(next(least), 100) != 0) {
            least++;
        }
        while (drawn(next(greatest), 100) != 99) {
            greatest++;
        }
        String[] tides = {"", "tide 0;", "tide 1;", "tide 99;", "tide 100;"};
        int[] byLeast = {0, 0, 1, 1, 1};
        int[] byGreatest = {0, 0, 0, 0, 1};
        for (int k = 0; k < tides.length; k++) {
            WalkFence x = Due.on("slope 1 by 4;fence a row 3 age 5;walks 0;" + tides[k]);
            x.seed(least);
            Due.is("a DRAW of 0 by " + tides[k], x.chance(1), byLeast[k]);
            WalkFence y = Due.on("slope 1 by 4;fence a row 3 age 5;walks 0;" + tides[k]);
            y.seed(greatest);
            Due.is("a DRAW of 99 by " + tides[k], y.chance(1), byGreatest[k]);
        }
    }

    private static void drawOfFencesAndColumns() {
        Due.about("terms II: a DRAW of FENCES, a DRAW of columns: that stake is GONE");
        for (int fences = 1; fences <= 6; fences++) {
            for (int columns = 1; columns <= 6; columns++) {
                StringBuilder text = new StringBuilder("slope " + columns + " by 4;walks 0;tide 100;");
                for (int f = 0; f < fences; f++) {
                    text.append("fence ").append((char) ('a' + f)).append(" row 2 age 5;");
                }
                WalkFence x = Due.on(text.toString());
                int from = 7 * fences + columns;
                x.seed(from);
                long seed = next(next(from));
                int fence = drawn(seed, fences);
                int column = drawn(next(seed), columns);
                Due.is("chance(1)", x.chance(1), 1);
                Due.is("the stake", x.stake(fence, column), NONE);
                Due.is("it alone", x.has(5), fences * columns - 1);
                same(x, new int[][] {{0, fence, column}});
            }
        }
    }

    /** How many tides there are, and in which YEAR the seed is how great, is reckoned here once more. */
    private static void drawsAreMade() {
        Due.about("terms II: ahead of each YEAR a DRAW of 100; two more with a tide, if there are FENCES");
        int[] tides = {0, 1, 50, 99, 100};
        for (int tide : tides) {
            for (int fences = 0; fences <= 1; fences++) {
                WalkFence x = Due.on("slope 1 by 4;tide " + tide + ";" + (fences > 0 ? "fence a row 3 age 5;" : ""));
                x.seed(99);
                long seed = 99;
                int due = 0;
                for (int year = 0; year < 30; year++) {
                    seed = next(seed);
                    if (drawn(seed, 100) < tide && fences > 0) {
                        due++;
                        seed = next(next(seed));
                    }
                }
                Due.is("tides of " + tide, x.chance(30), due);
                Due.slope(x, "slope 6 by 4;walks 0;tide 100;fence a row 3 age 5;");
                Due.is("a tide", x.chance(1), 1);
                Due.is("the seed behind it", x.kept(0, 2), drawn(next(next(next(seed))), 6));
            }
        }
    }

    private static void tideInRowZero() {
        Due.about("terms II: that stake is GONE, in row 0 and in the last row, on a POST, of a FENCE that is CUT");
        int[] rows = {0, 1, 2, 3};
        for (int row : rows) {
            WalkFence x = Due.on("slope 1 by 4;iron 0 1;fence a row " + row + " age 0;walks 0;tide 100;");
            x.cut(0);
            Due.is("chance(1)", x.chance(1), 1);
            Due.is("row " + row, x.stake(0, 0), NONE);
            same(x, new int[][] {{0, 0, 0}});
            Due.is("a tide more", x.chance(1), 1);
            same(x, new int[][] {{0, 0, 0}});
        }
    }

    private static void undoKept() {
        Due.about("promise 28: undone, what is KEPT is as it was ahead of the ACT");
        int[] first = {0, 1, 39, 40, 41, 77, 100};
        int[] then = {1, 39, 40, 41, 100};
        for (int n : first) {
            for (int more : then) {
                WalkFence x = Due.on("slope 1 by 4;fence f row 3 age 0;walks 0;roots all;");
                if (n > 0) {
                    x.years(n);
                }
                x.years(more);
                x.iron(0, 0);
                Due.is("KEPT", x.has(8), Math.min(40, n + more));
                Due.is("undo()", x.undo(), true);
                Due.is("KEPT", x.has(8), Math.min(40, n + more));
                Due.is("undo()", x.undo(), true);
                int told = Math.min(40, n);
                Due.is("KEPT", x.has(8), told);
                for (int k = 0; k < told; k++) {
                    Due.is("YEAR of " + k, x.kept(k, 0), n - told + k);
                }
                Due.is("no more", x.kept(told, 0), NONE);
                x.years(1);
                Due.is("KEPT behind it", x.kept(Math.min(39, told), 0), n);
            }
        }
    }

    private static void undoLast() {
        Due.about("promise 28: the latest ACT is undone (the seed stays)");
        WalkFence x = Due.on("slope 2 by 4;fence a row 3 age 5;fence b row 1 age 0;tide 100;walks 0;");
        x.seed(5);
        x.chance(1);
        int fence = x.kept(0, 1);
        int column = x.kept(0, 2);
        Due.is("undo()", x.undo(), true);
        Due.is("stakes", x.has(5), 4);
        Due.is("KEPT", x.has(8), 0);
        Due.is("YEAR", x.has(3), 0);
        long seed = next(next(5));
        Due.is("FENCE", fence, drawn(seed, 2));
        seed = next(seed);
        Due.is("column", column, drawn(seed, 2));
        x.chance(1);
        seed = next(next(seed));
        Due.is("FENCE by the seed that stays", x.kept(0, 1), drawn(seed, 2));
        Due.is("column by the seed that stays", x.kept(0, 2), drawn(next(seed), 2));
        // Refused calls and those that are no ACTS can't be undone.
        WalkFence y = Due.on("slope 2 by 4;fence a row 3 age 5;");
        y.set(0);
        y.set(1);
        y.cut(1);
        y.iron(9, 9);
        y.years(0);
        y.chance(0);
        y.seed(8);
        y.image();
        Due.sees(y, 0, 0, 0);
        Due.ask(y, "often all");
        Due.is("one ACT", y.has(10), 1);
        Due.is("undo()", y.undo(), true);
        Due.is("row", y.stake(0, 0), 3);
        Due.is("SEEN stays", y.has(9), 1);
        Due.is("none behind it", y.undo(), false);
    }

    private static void undoTwenty() {
        Due.about("terms II, promise 28: the last 20 can be undone");
        for (int acts = 19; acts <= 42; acts++) {
            WalkFence x = Due.on("slope 1 by 4;fence a row 3 age 5;walks 0;");
            for (int k = 1; k <= acts; k++) {
                x.years(1);
                Due.is("ACTS", x.has(10), Math.min(20, k));
            }
            int can = Math.min(20, acts);
            for (int k = 1; k <= can; k++) {
                Due.is("undo() " + k, x.undo(), true);
                Due.is("YEAR", x.has(3), acts - k);
                Due.is("ACTS left", x.has(10), can - k);
            }
            Due.is("one more", x.undo(), false);
            Due.is("status(4)", x.status(4), 1);
            Due.is("YEAR stays", x.has(3), acts - can);
            x.years(2);
            Due.is("an ACT behind them", x.has(10), 1);
            Due.is("undo()", x.undo(), true);
            Due.is("YEAR", x.has(3), acts - can);
        }
    }

    private static void undoNone() {
        Due.about("promise 28: false, refused (4), when none can be");
        WalkFence x = new WalkFence();
        Due.is("without a slope", x.undo(), false);
        Due.slope(x, "slope 1 by 4;fence a row 3 age 5;");
        Due.is("behind slope()", x.undo(), false);
        x.years(1);
        Due.takes(x, Due.imageOf(x));
        Due.is("behind on()", x.undo(), false);
        Due.is("status(4)", x.status(4), 3);
        Due.is("YEAR stays", x.has(3), 1);
        Due.is("GONE stays", x.has(5), 0);
    }

    private static void seedEdges() {
        Due.about("promise 29: false, refused (5), when it is below 0. (It is 1 at first.)");
        String text = "slope 6 by 4;walks 0;tide 100;fence a row 3 age 5;";
        int[] right = {0, 1, 2, MOST - 1, MOST};
        for (int seed : right) {
            WalkFence x = Due.on(text);
            Due.is("seed(" + seed + ")", x.seed(seed), true);
            Due.is("status(5)", x.status(5), 0);
            int[] wrong = {-1, -2, LEAST, LEAST + 1};
            for (int k = 0; k < wrong.length; k++) {
                Due.is("seed(" + wrong[k] + ")", x.seed(wrong[k]), false);
                Due.is("status(5)", x.status(5), k + 1);
            }
            x.chance(1);
            Due.is("column by " + seed, x.kept(0, 2), drawn(next(next(next(seed))), 6));
        }
        WalkFence first = Due.on(text);
        first.chance(1);
        Due.is("column at first", first.kept(0, 2), drawn(next(next(next(1))), 6));
        WalkFence early = new WalkFence();
        Due.is("without a slope", early.seed(77), true);
        Due.slope(early, text);
        early.chance(1);
        Due.is("it stays", early.kept(0, 2), drawn(next(next(next(77))), 6));
    }
}
