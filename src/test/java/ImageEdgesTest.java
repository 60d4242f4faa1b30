import java.util.Arrays;

/** The edges that the document names for images and for what is refused: promises 31 to 34, AN IMAGE in terms IV. */
final class ImageEdgesTest {
    private static final int NONE = WalkFence.NONE;
    private static final int LEAST = Integer.MIN_VALUE;
    private static final int MOST = Integer.MAX_VALUE;
    private static final String SMALL = "slope 2 by 9;iron 1 3;iron 0 7;fence a row 8 age 3;fence b row 0 age 0;";
    /** Where the parts of an image of SMALL stand, as at first. */
    private static final int[] FIRST = {0, 0, 2, 0, 7, 1, 3, 3, 0, 8, 8, 0, 0, 0, 0};
    private static final int AGE = 7;
    private static final int CUT = 8;
    private static final int ROW = 9;

    private ImageEdgesTest() {
    }

    public static void main(String[] args) {
        imageOfNone();
        imageBytes();
        imageOrder();
        imageOfAYear();
        largest();
        lastByte();
        octetEdges();
        onTells();
        onYears();
        onPosts();
        onOrder();
        onPlaces();
        onAges();
        onCuts();
        onRows();
        onLength();
        onLastByte();
        onThisSlope();
        onLeaves();
        statusEdges();
        statusCounts();
        Due.end();
    }

    private static void same(String of, int[] is, int... due) {
        Due.is("length of " + of, is.length, due.length);
        for (int k = 0; k < Math.min(is.length, due.length); k++) {
            Due.is("byte " + k + " of " + of, is[k], due[k]);
        }
    }

    private static int[] with(int at, int value) {
        int[] bytes = FIRST.clone();
        bytes[at] = value;
        return Due.checked(bytes);
    }

    private static void on(String of, boolean due, int... bytes) {
        WalkFence x = Due.on(SMALL);
        x.years(1);
        int[] ahead = Due.imageOf(x);
        Due.is("on() of " + of, Due.takes(x, bytes), due);
        Due.is("status(5) of " + of, x.status(5), due ? 0 : 1);
        Due.is("KEPT of " + of, x.has(8), due ? 0 : 2);
        Due.is("ACTS of " + of, x.has(10), due ? 0 : 1);
        same(of, Due.imageOf(x), due ? bytes : ahead);
    }

    private static void imageOfNone() {
        Due.about("promise 31: of none");
        same("no slope", Due.imageOf(new WalkFence()), 0, 0, 0, 23);
        same("no FENCES", Due.imageOf(Due.on("slope 6 by 30;")), 0, 0, 0, 23);
        same("no POSTS", Due.imageOf(Due.on("slope 1 by 4;fence f row 3 age 9;")), Due.checked(0, 0, 0, 9, 0, 3));
    }

    private static void imageBytes() {
        Due.about("promise 31, terms IV: for each FENCE age, 1 if it is CUT, else 0, the rows (255: GONE)");
        WalkFence x = Due.on(SMALL);
        same("as at first", Due.imageOf(x), Due.checked(FIRST));
        x.cut(1);
        same("CUT", Due.imageOf(x), Due.checked(0, 0, 2, 0, 7, 1, 3, 3, 0, 8, 8, 0, 1, 0, 0));
        x.years(1);
        same("GONE", Due.imageOf(x), Due.checked(0, 1, 2, 0, 7, 1, 3, 4, 0, 255, 255, 1, 0, 0, 0));
        Due.is("it says how many bytes", x.image(), 16);
    }

    private static void imageOrder() {
        Due.about("promise 31, terms IV: POSTS in order, column by column");
        WalkFence x = Due.on("slope 3 by 30;iron 2 0;iron 0 29;iron 1 5;");
        x.iron(1, 4);
        x.iron(0, 0);
        x.iron(2, 29);
        same("six POSTS", Due.imageOf(x), Due.checked(0, 0, 6, 0, 0, 0, 29, 1, 4, 1, 5, 2, 0, 2, 29));
    }

    private static void imageOfAYear() {
        Due.about("promise 31, terms IV: YEAR (two bytes, the higher first)");
        int[] years = {0, 1, 255, 256, 257, 511, 512, 767, 768, 998, 999};
        for (int year : years) {
            WalkFence x = Due.onYear("slope 1 by 4;", year);
            same("YEAR " + year, Due.imageOf(x), Due.checked(year / 256, year % 256, 0));
        }
        WalkFence y = Due.on("slope 1 by 4;");
        y.years(100);
        y.years(100);
        y.years(55);
        same("YEAR 255", Due.imageOf(y), Due.checked(0, 255, 0));
        y.years(1);
        same("YEAR 256", Due.imageOf(y), Due.checked(1, 0, 0));
    }

    private static String largestSlope() {
        StringBuilder text = new StringBuilder("slope 6 by 30;");
        for (char name = 'a'; name < 'g'; name++) {
            text.append("fence ").append(name).append(" row 29 age 99;");
        }
        return text.toString();
    }

    private static void largest() {
        Due.about("promises 31, 33: 24 POSTS, 6 FENCES, 6 columns");
        WalkFence x = Due.on(largestSlope());
        int[] due = new int[99];
        due[2] = 24;
        for (int k = 0; k < 24; k++) {
            x.iron(k / 4, 26 + k % 4);
            due[3 + 2 * k] = k / 4;
            due[4 + 2 * k] = 26 + k % 4;
        }
        for (int f = 0; f < 6; f++) {
            x.cut(f);
            Arrays.fill(due, 51 + 8 * f, 59 + 8 * f, 29);
            due[51 + 8 * f] = 99;
            due[52 + 8 * f] = 1;
        }
        same("the largest", Due.imageOf(x), Due.checked(due));
        WalkFence y = Due.on(largestSlope());
        Due.is("on()", Due.takes(y, Due.checked(due)), true);
        same("the largest again", Due.imageOf(y), Due.checked(due));
    }

    private static void lastByte() {
        Due.about("terms IV: last a byte: all ahead from 131 on, c = (3 c + it) mod 251");
        WalkFence x = Due.on("slope 1 by 30;fence f row 0 age 0;");
        for (int n = 0; n < 40; n++) {
            int[] is = Due.imageOf(x);
            int c = 131;
            for (int k = 0; k < is.length - 1; k++) {
                c = (3 * c + is[k]) % 251;
            }
            Due.is("the last byte in YEAR " + n, is[is.length - 1], c);
            x.years(1);
        }
    }

    private static void octetEdges() {
        Due.about("promise 32: byte k of the latest image(); NONE when there is none such");
        WalkFence x = Due.on(SMALL);
        int[] odd = {LEAST, -2, -1, 16, 17, 99, 100, MOST};
        Due.is("ahead of any image()", x.octet(0), NONE);
        Due.is("image()", x.image(), 16);
        for (int k : odd) {
            Due.is("octet(" + k + ")", x.octet(k), NONE);
        }
        Due.is("the last one", x.octet(15), Due.checked(FIRST)[15]);
        x.years(5);
        Due.is("the latest image() stays: YEAR", x.octet(1), 0);
        Due.is("the latest image() stays: row", x.octet(ROW), 8);
        Due.is("of another SLOPE", Due.slope(x, "slope 1 by 4;"), 1);
        Due.is("the latest image() stays: age", x.octet(AGE), 3);
        Due.is("a shorter image()", x.image(), 4);
        Due.is("its last", x.octet(3), 23);
        Due.is("none behind it", x.octet(4), NONE);
        Due.is("bytes above 127", bytesAbove(), 255);
    }

    private static int bytesAbove() {
        WalkFence x = Due.on("slope 1 by 4;fence f row 3 age 0;");
        x.years(1);
        x.image();
        return x.octet(5);
    }

    private static void onTells() {
        Due.about("promise 33: all is as it tells, nothing is KEPT or can be undone");
        on("as at first", true, Due.checked(FIRST));
        WalkFence x = Due.on(SMALL);
        x.seed(9);
        Due.sees(x, 0, 0, 1);
        int[] bytes = Due.checked(3, 231, 1, 1, 8, 99, 1, 255, 8, 0, 0, 4, 255);
        Due.is("on()", Due.takes(x, bytes), true);
        Due.is("YEAR", x.has(3), 999);
        Due.is("POSTS", x.has(4), 1);
        Due.is("a POST of the SLOPE is not there", x.place(1, 3, 1), 0);
        Due.is("a POST that it tells", x.place(1, 8, 1), 1);
        Due.is("age", x.fence(0, 0), 99);
        Due.is("CUT", x.fence(0, 3), 1);
        Due.is("not CUT", x.fence(1, 3), 0);
        Due.is("GONE", x.stake(0, 0), NONE);
        Due.is("row", x.stake(0, 1), 8);
        Due.is("GONE", x.stake(1, 1), NONE);
        Due.is("SEEN", x.has(9), 1);
        Due.is("undo()", x.undo(), false);
        same("itself", Due.imageOf(x), bytes);
        // What was tried AHEAD leaves nothing to it.
        x.irons(1, 1, 0);
        x.later(0, 0, 0);
        Due.is("without POSTS", Due.takes(x, Due.checked(0, 0, 0, 0, 0, 0, 0, 0, 0, 0, 0)), true);
        Due.is("POSTS", x.has(4), 0);
        Due.is("CUT", x.has(6), 0);
        Due.is("stakes", x.has(5), 4);
        WalkFence y = Due.on(SMALL + "tide 100;walks 0;");
        WalkFence z = Due.on(SMALL + "tide 100;walks 0;");
        y.seed(9);
        z.seed(9);
        Due.is("on()", Due.takes(y, Due.checked(FIRST)), true);
        y.chance(1);
        z.chance(1);
        same("the seed stays", Due.imageOf(y), Due.imageOf(z));
    }

    private static void onYears() {
        Due.about("promise 33: YEAR 999 at most");
        for (int year = 990; year <= 1010; year++) {
            int[] bytes = FIRST.clone();
            bytes[0] = year / 256;
            bytes[1] = year % 256;
            on("YEAR " + year, year <= 999, Due.checked(bytes));
        }
        on("the higher byte 4", false, with(0, 4));
        on("the higher byte 255", false, with(0, 255));
        on("the lower byte 255", true, with(1, 255));
    }

    private static int[] posts(int n) {
        int[] bytes = new int[3 + 2 * n];
        bytes[2] = n;
        for (int k = 0; k < n; k++) {
            bytes[3 + 2 * k] = k / 10;
            bytes[4 + 2 * k] = k % 10 * 3;
        }
        return Due.checked(bytes);
    }

    private static void onPosts() {
        Due.about("promise 33: 24 POSTS at most");
        for (int n = 0; n <= 30; n++) {
            WalkFence x = Due.on("slope 3 by 30;iron 0 1;");
            Due.is("on() of " + n, Due.takes(x, posts(n)), n <= 24);
            Due.is("POSTS", x.has(4), n <= 24 ? n : 1);
        }
        on("fewer than it says", false, with(2, 3));
        on("more than it says", false, with(2, 1));
        on("255 of them", false, with(2, 255));
    }

    private static int[] twoPosts(int a, int b, int c, int d) {
        int[] bytes = FIRST.clone();
        bytes[3] = a;
        bytes[4] = b;
        bytes[5] = c;
        bytes[6] = d;
        return Due.checked(bytes);
    }

    private static void onOrder() {
        Due.about("promise 33: places in order, unlike ones");
        on("rows up", true, twoPosts(0, 3, 0, 4));
        on("rows down", false, twoPosts(0, 4, 0, 3));
        on("like ones", false, twoPosts(0, 4, 0, 4));
        on("like ones in column 1", false, twoPosts(1, 8, 1, 8));
        on("columns up, rows down", true, twoPosts(0, 8, 1, 0));
        on("columns down, rows up", false, twoPosts(1, 0, 0, 8));
        on("the first two places", true, twoPosts(0, 0, 0, 1));
        on("the last two places", true, twoPosts(1, 7, 1, 8));
        WalkFence x = Due.on("slope 6 by 30;");
        Due.is("from the first to the last", Due.takes(x, Due.checked(0, 0, 3, 0, 0, 0, 29, 5, 29)), true);
        Due.is("a third like the first", Due.takes(x, Due.checked(0, 0, 3, 0, 0, 0, 29, 0, 0)), false);
    }

    private static void onPlaces() {
        Due.about("promise 33: places that there are");
        int[] wrong = {9, 10, 29, 30, 31, 32, 255};
        for (int row : wrong) {
            on("row " + row, false, twoPosts(0, 3, 0, row));
            on("row " + row + " of the last column", false, twoPosts(0, 3, 1, row));
        }
        int[] columns = {2, 3, 5, 6, 255};
        for (int column : columns) {
            on("column " + column, false, twoPosts(0, 3, column, 0));
        }
        on("the last place", true, twoPosts(0, 3, 1, 8));
        on("the first place", true, twoPosts(0, 0, 1, 8));
    }

    private static void onAges() {
        Due.about("promise 33: ages 99 at most");
        int[] ages = {0, 98, 99, 100, 101, 128, 255};
        for (int age : ages) {
            on("age " + age, age <= 99, with(AGE, age));
            on("age " + age + " of the last FENCE", age <= 99, with(AGE + 4, age));
        }
    }

    private static void onCuts() {
        Due.about("promise 33, terms IV: 1 if it is CUT, else 0");
        for (int cut = 0; cut < 256; cut += cut < 3 ? 1 : 84) {
            on("CUT " + cut, cut <= 1, with(CUT, cut));
            on("CUT " + cut + " of the last FENCE", cut <= 1, with(CUT + 4, cut));
        }
    }

    private static void onRows() {
        Due.about("promise 33, terms IV: the row of a stake (255: GONE)");
        int[] rows = {0, 7, 8, 9, 10, 29, 30, 128, 254, 255};
        for (int row : rows) {
            for (int at = ROW; at <= 14; at += 5) {
                on("row " + row + " at " + at, row <= 8 || row == 255, with(at, row));
            }
        }
    }

    private static void onLength() {
        Due.about("promise 33: when it is none: its length");
        int[] right = Due.checked(FIRST);
        for (int n = 0; n < right.length; n++) {
            on(n + " bytes of it", false, Arrays.copyOf(right, n));
        }
        for (int n = 0; n < FIRST.length; n++) {
            on(n + " bytes and the one behind them", false, Due.checked(Arrays.copyOf(FIRST, n)));
        }
        on("a byte behind it", false, Arrays.copyOf(right, right.length + 1));
        on("a byte more ahead of the last", false, Due.checked(Arrays.copyOf(FIRST, FIRST.length + 1)));
        on("1600 bytes", false, Arrays.copyOf(right, 1600));
    }

    private static void onLastByte() {
        Due.about("promise 33, terms IV: the last byte");
        int[] right = Due.checked(FIRST);
        for (int b = 0; b < 256; b++) {
            int[] bytes = right.clone();
            bytes[15] = b;
            on("last byte " + b, b == right[15], bytes);
        }
        // c = 0 .. 4 is not told by c + 251.
        int found = 0;
        for (int year = 0; year < 1000; year++) {
            int[] bytes = FIRST.clone();
            bytes[0] = year / 256;
            bytes[1] = year % 256;
            int[] checked = Due.checked(bytes);
            if (checked[15] <= 4) {
                found++;
                on("c = " + checked[15], true, checked);
                checked[15] += 251;
                on("c = " + checked[15], false, checked);
            }
        }
        Due.is("there are such", found > 4, true);
    }

    private static void onThisSlope() {
        Due.about("promise 33: AN IMAGE of this SLOPE; false without a slope");
        int[] right = Due.checked(FIRST);
        String[] others = {"slope 2 by 9;fence a row 0 age 0;", "slope 1 by 9;fence a row 0 age 0;fence b row 0 age 0;",
            "slope 2 by 8;fence a row 0 age 0;fence b row 0 age 0;", "slope 2 by 9;"};
        for (String other : others) {
            Due.is("on() of " + other, Due.takes(Due.on(other), right), false);
        }
        Due.is("of like ones", Due.takes(Due.on("slope 3 by 30;fence q row 0 age 0;"), Due.checked(0, 0, 0, 3, 0, 8, 29, 255)), true);
        WalkFence none = new WalkFence();
        Due.is("without a slope", Due.takes(none, 0, 0, 0, 23), false);
        Due.is("status(5)", none.status(5), 1);
        Due.slope(none, "slope 0");
        Due.is("without a slope still", Due.takes(none, 0, 0, 0, 23), false);
        Due.is("status(5)", none.status(5), 2);
        Due.slope(none, "slope 1 by 4;");
        Due.is("with one", Due.takes(none, 0, 0, 0, 23), true);
    }

    private static void onLeaves() {
        Due.about("promise 33: false, refused (5), all staying");
        WalkFence x = Due.on(SMALL);
        x.years(2);
        x.cut(1);
        Due.sees(x, 0, 0, 1);
        x.image();
        int[] latest = new int[16];
        for (int k = 0; k < 16; k++) {
            latest[k] = x.octet(k);
        }
        Due.is("a wrong last row", Due.takes(x, with(14, 9)), false);
        Due.is("a wrong last byte", Due.takes(x, Arrays.copyOf(FIRST, 16)), false);
        for (int k = 0; k < 16; k++) {
            Due.is("the latest image()", x.octet(k), latest[k]);
        }
        Due.is("KEPT", x.has(8), 2);
        Due.is("SEEN", x.has(9), 1);
        Due.is("ACTS", x.has(10), 2);
        Due.is("CUT", x.fence(1, 3), 1);
        Due.is("undo()", x.undo(), true);
        Due.is("undo()", x.undo(), true);
        same("as at first", Due.imageOf(x), Due.checked(FIRST));
    }

    private static void statusEdges() {
        Due.about("promise 34: NONE for others");
        int[] odd = {LEAST, -2, -1, 6, 7, MOST};
        for (int what : odd) {
            Due.is("status(" + what + ")", new WalkFence().status(what), NONE);
            Due.is("status(" + what + ")", Due.on(SMALL).status(what), NONE);
        }
        for (int what = 0; what < 6; what++) {
            Due.is("status(" + what + ")", Due.on(SMALL).status(what), 0);
        }
    }

    private static void counted(WalkFence x, String call, int... due) {
        for (int what = 0; what < 6; what++) {
            Due.is("status(" + what + ") behind " + call, x.status(what), due[what]);
        }
    }

    private static void statusCounts() {
        Due.about("promise 34: how many were refused, each of its own kind");
        WalkFence x = new WalkFence();
        x.end(1);
        counted(x, "end()", 1, 0, 0, 0, 0, 0);
        Due.tape(x, new int[1600]);
        x.feed(0, 0, 0, 0, 0);
        counted(x, "feed()", 2, 0, 0, 0, 0, 0);
        x.slope();
        counted(x, "slope()", 2, 1, 0, 0, 0, 0);
        x.see();
        counted(x, "see()", 2, 2, 0, 0, 0, 0);
        x.set(0);
        counted(x, "set()", 2, 2, 1, 0, 0, 0);
        x.cut(0);
        counted(x, "cut()", 2, 2, 2, 0, 0, 0);
        x.iron(0, 0);
        counted(x, "iron()", 2, 2, 3, 0, 0, 0);
        x.years(1);
        counted(x, "years()", 2, 2, 3, 1, 0, 0);
        x.chance(1);
        counted(x, "chance()", 2, 2, 3, 2, 0, 0);
        x.undo();
        counted(x, "undo()", 2, 2, 3, 2, 1, 0);
        x.seed(-1);
        counted(x, "seed()", 2, 2, 3, 2, 1, 1);
        x.on();
        counted(x, "on()", 2, 2, 3, 2, 1, 2);
        x.ask();
        x.octet(9);
        x.has(99);
        x.later(9, 9, 9);
        counted(x, "what is not refused", 2, 2, 3, 2, 1, 2);
        Due.slope(x, SMALL);
        counted(x, "a right slope()", 2, 2, 3, 2, 1, 2);
        Due.takes(x, Due.imageOf(x));
        counted(x, "a right on()", 2, 2, 3, 2, 1, 2);
        x.set(0);
        x.undo();
        counted(x, "a right undo()", 2, 2, 3, 2, 1, 2);
        Due.askFault(x, "total", 1, 5);
        counted(x, "a FAULT of ask()", 2, 2, 3, 2, 1, 2);
    }
}
