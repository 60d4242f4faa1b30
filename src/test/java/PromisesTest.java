/** Each promise of the document by hand: ordinary inputs, the edges that it names, wrong inputs. */
final class PromisesTest {
    private static final int NONE = WalkFence.NONE;
    private static final long NOTHING = WalkFence.NOTHING;
    /** Three columns; ann above, bob below; one POST. */
    private static final String COAST = "slope 3 by 8; steep 0 2; steep 2 0; iron 1 5; fence ann row 0 age 3;"
            + "fence bob row 2 age 0; stake bob 1 row 4; stake ann 2 row 6; walks steep+age/4; roots left<2; tide 50;";
    private static final String BARE = "slope 1 by 10;";

    private PromisesTest() {
    }

    public static void main(String[] args) {
        newObject();
        feedAndEnd();
        slopeAsTold();
        slopeFaultsOfBytes();
        slopeFaultsOfNumbersAndNames();
        slopeFaultsOfMany();
        slopeFaultsOfDepth();
        slopeTwice();
        slopeBehindFault();
        faultTold();
        hasAndLetter();
        placeFenceStake();
        walksBySum();
        sumsAndTests();
        yearsPass();
        postsHold();
        rootsAgain();
        keptLast();
        laterAndWhose();
        meetsAndBelow();
        setsBest();
        ironsBest();
        restOfSets();
        seeing();
        fitsAndTells();
        setAndCut();
        ironDriven();
        yearsRefused();
        yearsToTheLast();
        chanceBySeed();
        undoing();
        questions();
        questionFaults();
        images();
        imagesRefused();
        largestImage();
        statuses();
        Due.end();
    }

    private static void newObject() {
        Due.about("promise 1");
        WalkFence x = new WalkFence();
        for (int what = 0; what <= 10; what++) {
            Due.is("has(" + what + ")", x.has(what), 0);
        }
        Due.is("fault(0)", x.fault(0), 0);
        Due.is("fault(1)", x.fault(1), NONE);
        Due.is("rest(1)", x.rest(1), NONE);
        Due.is("image()", x.image(), 4);
        Due.is("the last byte", x.octet(3), 23);
    }

    private static void feedAndEnd() {
        Due.about("promises 2, 3");
        WalkFence x = new WalkFence();
        for (int k = 1; k <= 80; k++) {
            Due.is("feed()", x.feed(0, 0, 0, 0, 0), 20 * k);
        }
        Due.is("feed() beyond", x.feed(0, 0, 0, 0, 0), NONE);
        Due.is("end(1601)", x.end(1601), false);
        Due.is("end(-1)", x.end(-1), false);
        Due.is("status(0)", x.status(0), 3);
        Due.is("end(1600)", x.end(1600), true);
        Due.is("end(1581)", x.end(1581), true);
        Due.is("feed() beyond by one", x.feed(0, 0, 0, 0, 0), NONE);
        Due.is("end(1580)", x.end(1580), true);
        Due.is("feed() to the brim", x.feed(0, 0, 0, 0, 0), 1600);
        Due.is("end(0)", x.end(0), true);
        Due.is("end(1)", x.end(1), false);
        // "slope 1 by 4;" over several numbers, the highest byte first, the rest cut off.
        Due.is("feed()", x.feed(0x736c6f70, 0x65203120, 0x62792034, 0x3bffffff, 0), 20);
        Due.is("end(13)", x.end(13), true);
        Due.is("slope()", x.slope(), 1);
        Due.is("the tape goes", x.end(1), false);
    }

    private static void slopeAsTold() {
        Due.about("promise 4");
        WalkFence x = Due.on("slope 2 by 30;steep 0 3;steep 0 9;tide 3;tide 0;fence total row 29 age 99;"
                + "stake total 1 row 3;stake total 1 row 0;iron 1 29;");
        Due.is("the last steep counts", x.walks(0, 0), 9);
        Due.is("steep without", x.walks(0, 1), 1);
        Due.is("row", x.stake(0, 0), 29);
        Due.is("the last stake counts", x.stake(0, 1), 0);
        Due.is("age", x.fence(0, 0), 99);
        Due.is("post", x.place(1, 29, 1), 1);
        Due.is("the last tide counts", x.chance(100), 0);
        Due.is("blanks", Due.slope(x, " slope\n0006 by 0030 ;\nwalks(steep)*2;  \n"), 2);
        Due.is("has(0)", x.has(0), 6);
        Due.is("has(1)", x.has(1), 30);
    }

    /** A FAULT so far into what stands behind "slope 3 by 8;". */
    private static void lineFault(String text, int kind, int at) {
        Due.fault("slope 3 by 8;" + text, kind, 13 + at);
    }

    private static void slopeFaultsOfBytes() {
        Due.about("promises 4, 5: FAULT 1");
        Due.fault("", 1, 0);
        Due.fault(" \n ", 1, 3);
        Due.fault("slope", 1, 5);
        Due.fault("slope  ", 1, 7);
        Due.fault("slop", 1, 0);
        Due.fault("slopes 3", 1, 0);
        Due.fault("Slope 3 by 8;", 1, 0);
        Due.fault("steep 0 1;", 1, 0);
        Due.fault("slope3 by 8;", 1, 5);
        Due.fault("slope 3by 8;", 1, 7);
        Due.fault("slope 3 by8;", 1, 10);
        Due.fault("slope 3 by 8", 1, 12);
        Due.fault("slope 3 by 8 fence", 1, 13);
        Due.fault("slope 3 by 8\t;", 1, 12);
        Due.fault("slope 3 by 8;\u00e9", 1, 13);
        Due.fault("slope 12345", 1, 10);
        Due.fault("slope 00001 by 8;", 1, 10);
        Due.fault("slope three", 1, 6);
        lineFault(";", 1, 0);
        lineFault("slope 3 by 8;", 1, 0);
        lineFault("ann 3", 1, 0);
        lineFault("fence 5", 1, 6);
        lineFault("fence first row", 1, 6);
        lineFault("fence slope row", 1, 6);
        lineFault("fence max row", 1, 6);
        lineFault("fence numbers", 1, 12);
        Due.is("no OWN WORD", Due.slope(new WalkFence(), BARE + "fence last row 0 age 0;fence least row 0 age 0;"), 3);
        lineFault("fence ann4 row 0 age 0;", 1, 9);
        lineFault("fence annA row 0 age 0;", 1, 9);
        lineFault("fence ann row 0;", 1, 15);
        lineFault("fence ann row;", 1, 13);
        lineFault("fence ann age 0;", 1, 10);
        lineFault("fence ann row 0 age;", 1, 19);
        lineFault("fence ann row 0 age 0", 1, 21);
        lineFault("fence f row 0 age 0;stake row", 1, 26);
        lineFault("fence f row 0 age 0;stake abcdefg", 1, 32);
        lineFault("fence f row 0 age 0;stake f row", 1, 28);
        lineFault("fence f row 0 age 0;stake f 0 age", 1, 30);
        lineFault("tide", 1, 4);
        lineFault("tide 10000", 1, 9);
        lineFault("steep 0;", 1, 7);
        lineFault("walks ;", 1, 6);
        lineFault("walks left;", 1, 6);
        lineFault("walks field;", 1, 6);
        lineFault("walks age<2;", 1, 9);
        lineFault("walks 12345;", 1, 10);
        lineFault("walks age 2;", 1, 10);
        lineFault("walks age2;", 1, 9);
        lineFault("walks min 1;", 1, 10);
        lineFault("walks min(1;", 1, 11);
        lineFault("walks max(1,2;", 1, 13);
        lineFault("walks (age;", 1, 10);
        lineFault("walks -1;", 1, 6);
        lineFault("walks 1+;", 1, 8);
        lineFault("walks 2*;", 1, 8);
        lineFault("walks total;", 1, 6);
        lineFault("walks slope;", 1, 6);
        lineFault("walks last;", 1, 6);
        lineFault("roots row<2;", 1, 6);
        lineFault("roots age;", 1, 9);
        lineFault("roots age<2 3;", 1, 12);
        lineFault("roots age<2or all;", 1, 11);
        lineFault("roots age<2<3;", 1, 11);
        lineFault("roots [all;", 1, 10);
        lineFault("roots (all);", 1, 7);
        lineFault("roots not;", 1, 9);
        lineFault("roots notall;", 1, 6);
        lineFault("roots all or;", 1, 12);
        lineFault("roots all and;", 1, 13);
        lineFault("roots all and all", 1, 17);
    }

    private static void slopeFaultsOfNumbersAndNames() {
        Due.about("promises 4, 5: FAULTS 2, 3");
        Due.fault("slope 0 by", 2, 6);
        Due.fault("slope 7by", 2, 6);
        Due.fault("slope 1 by 3;", 2, 11);
        Due.fault("slope 6 by 31;", 2, 11);
        lineFault("steep 3 0;", 2, 6);
        lineFault("steep 2 10;", 2, 8);
        lineFault("iron 3 0;", 2, 5);
        lineFault("iron 0 8;", 2, 7);
        lineFault("iron 0 7;iron 1 7; iron 0  7;", 2, 27);
        lineFault("fence f row 8", 2, 12);
        lineFault("fence f row 7 age 100", 2, 18);
        lineFault("fence f row 7 age 9;stake f 3", 2, 28);
        lineFault("fence f row 7 age 9;stake f 2 row 8", 2, 34);
        lineFault("tide 101;", 2, 5);
        lineFault("fence f row 7 age 9;fence f row", 3, 26);
        lineFault("fence f row 7 age 9;fence f7", 3, 26);
        lineFault("stake f 0 row 0;", 3, 6);
        lineFault("fence f row 7 age 9;stake ff 0", 3, 26);
        lineFault("fence abcdef row 7 age 9;fence abcdefg", 1, 37);
        Due.is("tide 100", Due.slope(new WalkFence(), "slope 3 by 8;tide 100;"), 2);
    }

    private static void slopeFaultsOfMany() {
        Due.about("promises 4, 5: FAULT 5");
        String fences = "fence a row 0 age 0;fence b row 0 age 0;fence c row 0 age 0;fence d row 0 age 0;"
                + "fence e row 0 age 0;fence f row 0 age 0;";
        Due.is("6 FENCES", Due.slope(new WalkFence(), BARE + fences), 7);
        lineFault(fences + "fence", 5, 120);
        lineFault(fences + "fence7", 5, 120);
        StringBuilder posts = new StringBuilder();
        for (int k = 0; k < 12; k++) {
            posts.append("iron ").append(k % 3).append(' ').append(k / 3).append(';');
        }
        Due.is("12 POSTS", Due.slope(new WalkFence(), "slope 3 by 8;" + posts), 13);
        lineFault(posts + " iron 9 9", 5, 109);
        lineFault("walks 1; walks", 5, 9);
        lineFault("roots all;roots;", 5, 10);
        Due.is("80 STATEMENTS", Due.slope(new WalkFence(), "slope 3 by 8;" + Due.many(79, "tide 1;") + " \n"), 80);
        lineFault(Due.many(79, "tide 1;") + " tide 1;", 5, 554);
        lineFault(Due.many(79, "tide 1;") + "\n)", 5, 554);
        lineFault(Due.many(79, "tide 1;") + ";", 5, 553);
        lineFault(Due.many(78, "tide 1;") + "tide 1", 1, 552);
    }

    private static void slopeFaultsOfDepth() {
        Due.about("promises 4, 5: FAULT 4");
        String six = "slope 1 by 4;walks " + Due.many(6, "(") + "1" + Due.many(6, ")") + ";";
        Due.is("6 open", Due.slope(new WalkFence(), six), 2);
        lineFault("walks " + Due.many(7, "(") + "1", 4, 12);
        lineFault("walks " + Due.many(6, "(") + "min(1,2)", 4, 15);
        lineFault("walks " + Due.many(6, "(") + "min 1", 1, 16);
        lineFault("walks min(1," + Due.many(5, "max(1,") + "(1", 4, 42);
        lineFault("walks " + Due.many(6, "min(") + "(1", 4, 30);
        Due.is("6 min open", Due.slope(new WalkFence(), BARE + "walks " + Due.many(6, "min(") + "1" + Due.many(6, ",1)") + ";"), 2);
        Due.is("6 max open", Due.slope(new WalkFence(), BARE + "walks " + Due.many(6, "max(1,") + "1" + Due.many(6, ")") + ";"), 2);
        Due.is("closed ones", Due.slope(new WalkFence(), "slope 1 by 4;walks " + Due.many(9, "(1)+") + "1;"), 2);
        Due.is("6 not", Due.slope(new WalkFence(), BARE + "roots " + Due.many(6, "not ") + "all;"), 2);
        lineFault("roots " + Due.many(7, "not ") + "all;", 4, 30);
        lineFault("roots not not [ not [ [ not", 4, 24);
        lineFault("roots not not not [[[(1)>0", 4, 21);
        Due.is("a not ends with its FACT", Due.slope(new WalkFence(),
                BARE + "roots not not all and not not not [[[ all]]] or not (((((1)))))<2;"), 2);
    }

    private static void slopeTwice() {
        Due.about("promise 4: once more");
        WalkFence x = Due.on(COAST);
        x.seed(77);
        x.cut(0);
        x.years(30);
        Due.tape(x, 0, 0, 255);
        x.see();
        x.image();
        int length = x.image();
        Due.is("with a FAULT", Due.slope(x, BARE + "tide 200;"), NONE);
        Due.is("all stays: YEAR", x.has(3), 30);
        Due.is("all stays: FENCES", x.has(2), 2);
        Due.is("all stays: SEEN", x.has(9), 1);
        Due.is("all stays: ACTS", x.has(10), 2);
        Due.is("is KEPT", x.has(8) > 0, true);
        Due.is("anew", Due.slope(x, COAST), 11);
        for (int what = 8; what <= 10; what++) {
            Due.is("has(" + what + ")", x.has(what), 0);
        }
        Due.is("YEAR", x.has(3), 0);
        Due.is("CUT", x.has(6), 0);
        Due.is("age", x.fence(0, 0), 3);
        Due.is("the latest image stays", x.octet(length - 1) != NONE, true);
        WalkFence y = Due.on(COAST);
        y.seed(77);
        Due.is("the seed stays", x.chance(60), y.chance(60));
        Due.is("stakes by one seed", x.has(5), y.has(5));
    }

    /** A slope that a FAULT ended leaves nothing to the next one. */
    private static void slopeBehindFault() {
        Due.about("promise 4: behind a FAULT");
        WalkFence x = Due.on("slope 6 by 30;");
        Due.slope(x, "slope 6 by 30;steep 0 5;iron 0 3;tide 100;fence abcdef row 4 age 9;fence g row 5 age 9;walks 3;"
                + "roots all;tide 101;");
        Due.slope(x, "slope 2 by 9;fence ab row 0 age 0;");
        x.cut(0);
        Due.is("POSTS", x.has(4), 0);
        Due.is("stakes", x.has(5), 2);
        Due.is("MOOR", x.has(7), 0);
        Due.is("NAME", x.letter(0, 2), 0);
        Due.is("steep, walks", x.walks(0, 0), 1);
        Due.is("tide", x.chance(9), 0);
        Due.is("roots", x.fence(0, 0), 9);
        Due.is("FIELD", x.fence(0, 1), 2);
    }

    private static void faultTold() {
        Due.about("promise 5");
        WalkFence x = new WalkFence();
        Due.is("fault(2)", x.fault(2), NONE);
        Due.is("fault(-1)", x.fault(-1), NONE);
        Due.slope(x, "slope 9");
        Due.is("ask() without a slope", Due.ask(x, "total"), NOTHING);
        Due.is("does nothing else", x.fault(0), 2);
        Due.is("its place", x.fault(1), 6);
        Due.slope(x, BARE);
        Due.is("fault(0) without", x.fault(0), 0);
        Due.is("fault(1) without", x.fault(1), NONE);
        Due.ask(x, "total x");
        Due.is("fault(0) of ask()", x.fault(0), 1);
        Due.is("fault(1) of ask()", x.fault(1), 6);
        Due.ask(x, "total 1");
        Due.is("fault(0) of the latest", x.fault(0), 0);
    }

    private static void hasAndLetter() {
        Due.about("promises 6, 7");
        WalkFence x = Due.on(COAST);
        int[] due = {3, 8, 2, 0, 1, 6, 0, 2, 0, 0, 0};
        for (int what = 0; what < due.length; what++) {
            Due.is("has(" + what + ")", x.has(what), due[what]);
        }
        Due.is("has(-1)", x.has(-1), NONE);
        Due.is("has(11)", x.has(11), NONE);
        x.cut(1);
        Due.is("has(6)", x.has(6), 1);
        int[] bob = {2, 15, 2, 0, 0, 0, NONE};
        for (int k = 0; k < bob.length; k++) {
            Due.is("letter(1, " + k + ")", x.letter(1, k), bob[k]);
        }
        Due.is("letter(0, -1)", x.letter(0, -1), NONE);
        Due.is("letter(2, 0)", x.letter(2, 0), NONE);
        Due.is("letter(-1, 0)", x.letter(-1, 0), NONE);
        Due.is("a letter z", Due.on(BARE + "fence azzzzz row 0 age 0;").letter(0, 5), 26);
    }

    private static void placeFenceStake() {
        Due.about("promises 8, 9, 10");
        WalkFence x = Due.on("slope 2 by 6;fence a row 2 age 7;fence b row 2 age 8;fence c row 4 age 9;stake a 1 row 5;"
                + "stake b 1 row 0; iron 0 5;");
        int[] column0 = {NONE, NONE, 0, 0, 2, 2};
        int[] column1 = {1, 1, 1, 1, 2, 0};
        int[] stakes0 = {0, 0, 2, 0, 1, 0};
        for (int r = 0; r < 6; r++) {
            Due.is("place(0, " + r + ", 0)", x.place(0, r, 0), column0[r]);
            Due.is("place(1, " + r + ", 0)", x.place(1, r, 0), column1[r]);
            Due.is("place(0, " + r + ", 1)", x.place(0, r, 1), r == 5 ? 1 : 0);
            Due.is("place(0, " + r + ", 2)", x.place(0, r, 2), stakes0[r]);
        }
        Due.is("MOOR", x.has(7), 2);
        Due.is("place(0, 0, 3)", x.place(0, 0, 3), NONE);
        Due.is("place(0, 5, -1)", x.place(0, 5, -1), NONE);
        Due.is("place(2, 0, 1)", x.place(2, 0, 1), NONE);
        Due.is("place(0, 6, 1)", x.place(0, 6, 1), NONE);
        Due.is("place(-1, 0, 1)", x.place(-1, 0, 1), NONE);
        Due.is("place(0, -1, 2)", x.place(0, -1, 2), NONE);
        int[] fields = {3, 4, 3};
        for (int f = 0; f < 3; f++) {
            Due.is("fence(" + f + ", 0)", x.fence(f, 0), 7 + f);
            Due.is("fence(" + f + ", 1)", x.fence(f, 1), fields[f]);
            Due.is("fence(" + f + ", 2)", x.fence(f, 2), 2);
            Due.is("fence(" + f + ", 3)", x.fence(f, 3), 0);
        }
        Due.is("fence(0, 4)", x.fence(0, 4), NONE);
        Due.is("fence(0, -1)", x.fence(0, -1), NONE);
        Due.is("fence(3, 0)", x.fence(3, 0), NONE);
        Due.is("fence(-1, 0)", x.fence(-1, 0), NONE);
        Due.is("stake(0, 1)", x.stake(0, 1), 5);
        Due.is("stake(0, 2)", x.stake(0, 2), NONE);
        Due.is("stake(0, -1)", x.stake(0, -1), NONE);
        Due.is("stake(3, 0)", x.stake(3, 0), NONE);
        Due.is("stake(-1, 0)", x.stake(-1, 0), NONE);
        x.years(1);
        Due.is("a stake that is GONE", x.stake(0, 1), NONE);
        Due.is("fence(0, 2)", x.fence(0, 2), 1);
        Due.is("walks of it", x.walks(0, 1), NONE);
    }

    private static int paces(String sum) {
        return Due.on("slope 1 by 30;steep 0 4;fence f row 7 age 13;walks " + sum + ";").walks(0, 0);
    }

    private static void walksBySum() {
        Due.about("promise 11");
        Due.is("9 at most", paces("99"), 9);
        Due.is("0 at least", paces("0-5"), 0);
        Due.is("row", paces("row"), 7);
        Due.is("age", paces("age-10"), 3);
        Due.is("steep", paces("steep"), 4);
        Due.is("year", paces("year+6"), 6);
        WalkFence x = Due.on("slope 2 by 9;steep 1 5;iron 0 3;fence f row 3 age 0;walks steep+year;");
        Due.is("on a POST", x.walks(0, 0), 1);
        Due.is("in another column", x.walks(0, 1), 5);
        x.cut(0);
        Due.is("CUT", x.walks(0, 1), 5);
        Due.is("walks(0, 2)", x.walks(0, 2), NONE);
        Due.is("walks(1, 0)", x.walks(1, 0), NONE);
        Due.is("walks(-1, 0)", x.walks(-1, 0), NONE);
        Due.is("walks(0, -1)", x.walks(0, -1), NONE);
        x.years(1);
        Due.is("in YEAR 1", x.walks(0, 1), 6);
    }

    private static boolean holds(String test) {
        return Due.ask(Due.on(BARE + "fence f row 3 age 5;"), "often " + test) == 1;
    }

    private static long total(String sum) {
        return Due.ask(Due.on(BARE + "fence f row 3 age 5;"), "total " + sum);
    }

    private static void sumsAndTests() {
        Due.about("terms I: SUM, TEST");
        Due.is("1-2-3", total("1-2-3"), -4);
        Due.is("2+3*4", total("2+3*4"), 14);
        Due.is("(2+3)*4", total("(2+3)*4"), 20);
        Due.is("20/3*2", total("20/3*2"), 12);
        Due.is("(0-7)/2", total("(0-7)/2"), -4);
        Due.is("7/(0-2)", total("7/(0-2)"), -4);
        Due.is("(0-7)/(0-2)", total("(0-7)/(0-2)"), 3);
        Due.is("7/0", total("7/0"), 0);
        Due.is("(0-7)/0", total("(0-7)/0"), 0);
        Due.is("above", total("9999*101"), 1000000);
        Due.is("below", total("0-9999*101-1"), -1000000);
        Due.is("each is bounded", total("9999*9999-1000*9999+5"), 5);
        Due.is("1000*1000+1", total("1000*1000+1"), 1000000);
        Due.is("0-1000*1000-9", total("0-1000*1000-9"), -1000000);
        Due.is("min", total("min(2+3,4)"), 4);
        Due.is("max", total("max(min(9,8),1-2)"), 8);
        Due.is("9999", total("9999"), 9999);
        Due.is("1<2", holds("1<2"), true);
        Due.is("2<2", holds("2<2"), false);
        Due.is("2>1", holds("2>1"), true);
        Due.is("2>2", holds("2>2"), false);
        Due.is("2=2", holds("2=2"), true);
        Due.is("2=1", holds("2=1"), false);
        Due.is("and ahead of or", holds("all or all and 1=2"), true);
        Due.is("[] ahead of and", holds("[all or all] and 1=2"), false);
        Due.is("not binds a FACT", holds("not 1=2 and 1=2"), false);
        Due.is("not of []", holds("not [1=2 and 1=2]"), true);
        Due.is("not not", holds("not not 1=2"), false);
        Due.is("or", holds("1=2 or 1=3 or 1=1"), true);
    }

    private static void yearsPass() {
        Due.about("promise 26, terms II: a YEAR");
        WalkFence x = Due.on("slope 2 by 5;steep 0 2;fence a row 0 age 98;fence b row 3 age 0;");
        x.cut(0);
        Due.is("years(1)", x.years(1), 1);
        Due.is("a CUT FENCE stays", x.stake(0, 0), 0);
        Due.is("b goes", x.stake(1, 0), NONE);
        Due.is("b walks", x.stake(1, 1), 4);
        Due.is("older", x.fence(0, 0), 99);
        Due.is("CUT no more", x.fence(0, 3), 0);
        Due.is("YEAR", x.has(3), 1);
        Due.is("years(2)", x.years(2), 1);
        Due.is("a walks", x.stake(0, 0), 4);
        Due.is("a walks", x.stake(0, 1), 2);
        Due.is("99 at most", x.fence(0, 0), 99);
        Due.is("b is GONE", x.fence(1, 2), 0);
        Due.is("years(100)", x.years(100), 2);
        for (int k = 0; k < 10; k++) {
            x.years(100);
        }
        Due.is("YEAR 999 at most", x.has(3), 903);
        Due.is("one ACT each", x.has(10), 12);
        WalkFence walks = Due.on("slope 1 by 30;fence f row 0 age 2;walks age+year;");
        walks.years(2);
        Due.is("by what is ahead of it", walks.stake(0, 0), 2 + 4);
    }

    private static void postsHold() {
        Due.about("terms II: POSTS");
        WalkFence x = Due.on("slope 2 by 10;steep 0 4;steep 1 4;iron 0 3;iron 0 2;iron 1 9;fence f row 0 age 0;"
                + "stake f 1 row 8;");
        x.years(1);
        Due.is("stops at the first POST", x.stake(0, 0), 2);
        Due.is("stops at the last row", x.stake(0, 1), 9);
        Due.is("none goes", x.years(9), 0);
        Due.is("stays on it", x.stake(0, 0), 2);
        WalkFence y = Due.on("slope 1 by 10;steep 0 3;iron 0 4;fence f row 2 age 0;");
        y.years(1);
        Due.is("a POST on its way", y.stake(0, 0), 4);
        WalkFence z = Due.on("slope 1 by 10;steep 0 3;iron 0 4;fence f row 1 age 0;");
        z.years(1);
        Due.is("a POST where it lands", z.stake(0, 0), 4);
        WalkFence behind = Due.on("slope 1 by 10;steep 0 3;iron 0 0;fence f row 1 age 0;");
        behind.years(1);
        Due.is("a POST behind it", behind.stake(0, 0), 4);
    }

    private static void rootsAgain() {
        Due.about("terms II: roots");
        WalkFence x = Due.on("slope 2 by 6;steep 0 3;iron 1 1;fence f row 4 age 1;fence g row 0 age 6;roots left<2;");
        x.years(1);
        Due.is("all its stakes in row 0", x.stake(0, 0), 0);
        Due.is("also those that stood", x.stake(0, 1), 0);
        Due.is("age 0", x.fence(0, 0), 0);
        Due.is("the other one is not", x.fence(1, 0), 7);
        Due.is("KEPT: how many", x.has(8), 2);
        Due.is("KEPT: the stake", x.kept(0, 2), 0);
        Due.is("KEPT: SET", x.kept(1, 2), 255);
        Due.is("KEPT: its FENCE", x.kept(1, 1), 0);
        Due.is("KEPT: its YEAR", x.kept(1, 0), 0);
        WalkFence age = Due.on("slope 1 by 30;steep 0 0;fence f row 9 age 4;roots age=5;");
        age.years(1);
        Due.is("by the age behind the walk", age.stake(0, 0), 0);
        WalkFence year = Due.on("slope 1 by 30;steep 0 0;fence f row 9 age 4;roots year=1;");
        year.years(1);
        Due.is("by the YEAR ahead of its end", year.stake(0, 0), 9);
        year.years(1);
        Due.is("YEAR 1 ends", year.stake(0, 0), 0);
        WalkFence steep = Due.on("slope 2 by 30;steep 0 7;steep 1 0;fence f row 9 age 4;roots steep=7;");
        steep.years(1);
        Due.is("steep of column 0", steep.fence(0, 0), 0);
        WalkFence never = Due.on("slope 2 by 4;fence f row 3 age 4;");
        Due.is("without never", never.years(50), 2);
        Due.is("GONE", never.fence(0, 2), 0);
        WalkFence order = Due.on("slope 1 by 4;fence f row 3 age 4;fence g row 3 age 4;roots all;");
        order.years(1);
        int[] fences = {0, 1, 0, 1};
        int[] columns = {0, 0, 255, 255};
        for (int k = 0; k < 4; k++) {
            Due.is("kept(" + k + ", 1)", order.kept(k, 1), fences[k]);
            Due.is("kept(" + k + ", 2)", order.kept(k, 2), columns[k]);
        }
    }

    private static void keptLast() {
        Due.about("promise 12");
        WalkFence x = Due.on("slope 1 by 4;steep 0 0;fence f row 0 age 0;roots all;");
        x.years(39);
        Due.is("has(8)", x.has(8), 39);
        Due.is("the oldest", x.kept(0, 0), 0);
        Due.is("beyond", x.kept(39, 0), NONE);
        x.years(2);
        Due.is("40 at most", x.has(8), 40);
        Due.is("the oldest told", x.kept(0, 0), 1);
        Due.is("the latest", x.kept(39, 0), 40);
        Due.is("FENCE", x.kept(39, 1), 0);
        Due.is("SET", x.kept(39, 2), 255);
        Due.is("kept(40, 0)", x.kept(40, 0), NONE);
        Due.is("kept(-1, 0)", x.kept(-1, 0), NONE);
        Due.is("kept(0, 3)", x.kept(0, 3), NONE);
        Due.is("kept(0, -1)", x.kept(0, -1), NONE);
        x.undo();
        Due.is("undone", x.has(8), 39);
        Due.is("undone: the oldest", x.kept(0, 0), 0);
    }

    private static void laterAndWhose() {
        Due.about("promises 13, 14");
        WalkFence x = Due.on(COAST);
        int[] fields = {8, 8, 4, 15, 12};
        int[] ages = {3, 4, 5, 0, 1};
        for (int n = 0; n < 5; n++) {
            Due.is("later(0, " + n + ", 0)", x.later(0, n, 0), fields[n]);
            Due.is("later(0, " + n + ", 1)", x.later(0, n, 1), 3);
            Due.is("later(0, " + n + ", 2)", x.later(0, n, 2), ages[n]);
        }
        Due.is("later(0, 60, 2)", x.later(0, 60, 2) >= 0, true);
        Due.is("later(0, 61, 0)", x.later(0, 61, 0), NONE);
        Due.is("later(0, -1, 0)", x.later(0, -1, 0), NONE);
        Due.is("later(0, 1, 3)", x.later(0, 1, 3), NONE);
        Due.is("later(0, 1, -1)", x.later(0, 1, -1), NONE);
        Due.is("later(2, 1, 0)", x.later(2, 1, 0), NONE);
        Due.is("later(-1, 1, 0)", x.later(-1, 1, 0), NONE);
        Due.is("whose(2, 7, 2)", x.whose(2, 7, 2), 0);
        Due.is("whose(2, 6, 2)", x.whose(2, 6, 2), 1);
        Due.is("whose(2, 0, 1)", x.whose(2, 0, 1), NONE);
        Due.is("whose(1, 4, 0)", x.whose(1, 4, 0), 1);
        Due.is("whose(1, 4, 61)", x.whose(1, 4, 61), NONE);
        Due.is("whose(1, 4, -1)", x.whose(1, 4, -1), NONE);
        Due.is("whose(3, 0, 0)", x.whose(3, 0, 0), NONE);
        Due.is("whose(0, 8, 0)", x.whose(0, 8, 0), NONE);
        Due.is("nothing has come", x.has(3) + x.has(8) + x.has(10), 0);
        WalkFence late = Due.on(BARE + "steep 0 0;fence f row 1 age 0;fence g row 2 age 0;");
        for (int k = 0; k < 9; k++) {
            late.years(100);
        }
        late.years(90);
        Due.is("to YEAR 999", late.later(0, 9, 0), 1);
        Due.is("beyond YEAR 999", late.later(0, 10, 0), NONE);
        Due.is("whose to YEAR 999", late.whose(0, 1, 9), 0);
        Due.is("whose beyond", late.whose(0, 1, 10), NONE);
        Due.is("sets to YEAR 999", late.sets(1, 9, 1), 8);
        Due.is("sets beyond", late.sets(1, 10, 1), NONE);
        Due.is("rest to YEAR 999", late.rest(9), 0);
        Due.is("rest beyond", late.rest(10), NONE);
        Due.is("irons beyond", late.irons(0, 10, 0), NONE);
        Due.is("fits to YEAR 999", late.fits(0), 10);
        Due.is("CUT now", cutAhead(), 5);
    }

    /** A FENCE that is CUT stays in the first YEAR AHEAD alone. */
    private static int cutAhead() {
        WalkFence x = Due.on(BARE + "steep 0 5;fence f row 0 age 0;");
        x.cut(0);
        Due.is("CUT stays", x.later(0, 1, 0), 10);
        return x.later(0, 2, 0);
    }

    private static void meetsAndBelow() {
        Due.about("promises 15, 16");
        WalkFence x = Due.on("slope 2 by 20;steep 1 0;fence a row 0 age 0;fence b row 6 age 0;fence c row 7 age 0;"
                + "stake b 1 row 5;stake c 1 row 0;walks steep*(9-row);");
        Due.is("now", x.meets(0, 2), 0);
        Due.is("first of all, in YEAR 1", x.meets(0, 1), 1);
        Due.is("the other way", x.meets(1, 0), 1);
        Due.is("one", x.meets(1, 1), NONE);
        Due.is("meets(0, 3)", x.meets(0, 3), NONE);
        Due.is("meets(-1, 0)", x.meets(-1, 0), NONE);
        Due.is("below(1, 0)", x.below(1, 0), 2);
        Due.is("below(0, 1)", x.below(0, 1), 0);
        Due.is("below(1, 2)", x.below(1, 2), 1);
        Due.is("below(2, 1)", x.below(2, 1), 1);
        Due.is("below(2, 0)", x.below(2, 0), 1);
        Due.is("below(0, 0)", x.below(0, 0), NONE);
        Due.is("below(0, 3)", x.below(0, 3), NONE);
        Due.is("below(-1, 0)", x.below(-1, 0), NONE);
        WalkFence gone = Due.on("slope 1 by 4;fence a row 3 age 0;fence b row 0 age 0;");
        Due.is("below", gone.below(0, 1), 1);
        gone.years(1);
        Due.is("not of one that is GONE", gone.below(0, 1), 0);
        Due.is("nor below it", gone.below(1, 0), 0);
        gone.years(9);
        Due.is("those that are GONE do not MEET", gone.meets(0, 1), NONE);
        Due.is("60 YEARS", Due.on(meetingIn(60)).meets(0, 1), 60);
        Due.is("61 YEARS", Due.on(meetingIn(61)).meets(0, 1), NONE);
    }

    private static String meetingIn(int years) {
        return "slope 1 by 9;fence a row 0 age 0;fence b row 5 age 0;walks min(1,max(0,year-" + (years - 2)
                + "))*min(1,max(0,5-row))*5;";
    }

    private static void setsBest() {
        Due.about("promise 17");
        WalkFence x = Due.on(COAST);
        Due.is("sets(0, 2, 0)", x.sets(0, 2, 0), 1);
        Due.is("sets(0, 2, 1)", x.sets(0, 2, 1), 8);
        Due.is("not at all", x.sets(0, 1, 0), NONE);
        Due.is("its FIELD", x.sets(0, 1, 1), 8);
        WalkFence alone = Due.on("slope 1 by 10;steep 0 2;fence a row 0 age 0;");
        // Behind 1 .. 4 YEARS: 8 6 4 2; SET behind 2 of them 8 6 8 6.
        Due.is("the middle", alone.sets(0, 4, 0), 2);
        Due.is("its least", alone.sets(0, 4, 1), 6);
        Due.is("of like ones the least", alone.sets(0, 3, 0), 1);
        Due.is("n - 1", alone.sets(0, 2, 0), 1);
        Due.is("its least of 2", alone.sets(0, 2, 1), 8);
        Due.is("not at all is ahead", alone.sets(0, 1, 0), NONE);
        Due.is("30 YEARS", alone.sets(0, 30, 1), 0);
        WalkFence low = Due.on("slope 1 by 4;fence a row 3 age 0;fence b row 0 age 99;");
        Due.is("at once", low.sets(0, 1, 0), 0);
        Due.is("its FIELD at once", low.sets(0, 1, 1), 3);
        // SET behind 1 YEAR: 6, then 9; SET at once: 9, 8.
        WalkFence slow = Due.on("slope 1 by 10;fence a row 3 age 0;");
        Due.is("ahead of its being SET then", slow.sets(0, 2, 1), 8);
        Due.is("at once of two", slow.sets(0, 2, 0), 0);
        Due.is("sets(0, 31, 1)", alone.sets(0, 31, 1), NONE);
        Due.is("sets(0, 0, 1)", alone.sets(0, 0, 1), NONE);
        Due.is("sets(1, 1, 1)", alone.sets(1, 1, 1), NONE);
        Due.is("sets(-1, 1, 1)", alone.sets(-1, 1, 1), NONE);
        Due.is("sets(0, 1, 2)", alone.sets(0, 1, 2), NONE);
        Due.is("sets(0, 1, -1)", alone.sets(0, 1, -1), NONE);
        Due.is("it is not SET", alone.has(10), 0);
    }

    private static void ironsBest() {
        Due.about("promise 18");
        WalkFence x = Due.on(COAST);
        Due.is("irons(0, 1, 0)", x.irons(0, 1, 0), 0);
        Due.is("irons(0, 1, 1)", x.irons(0, 1, 1), 2);
        Due.is("irons(0, 1, 2)", x.irons(0, 1, 2), 12);
        Due.is("irons(0, 1, 3)", x.irons(0, 1, 3), NONE);
        Due.is("irons(0, 1, -1)", x.irons(0, 1, -1), NONE);
        Due.is("irons(0, 0, 0)", x.irons(0, 0, 0), NONE);
        Due.is("irons(0, 21, 0)", x.irons(0, 21, 0), NONE);
        Due.is("irons(2, 1, 0)", x.irons(2, 1, 0), NONE);
        Due.is("irons(-1, 1, 0)", x.irons(-1, 1, 0), NONE);
        WalkFence alone = Due.on("slope 2 by 10;steep 0 2;steep 1 2;fence a row 1 age 0;");
        Due.is("where it stands", alone.irons(0, 20, 1), 1);
        Due.is("the first column", alone.irons(0, 20, 0), 0);
        Due.is("its FIELD", alone.irons(0, 20, 2), 9);
        alone.iron(0, 1);
        Due.is("behind an ACT", alone.irons(0, 20, 0), 1);
        Due.is("its FIELD then", alone.irons(0, 20, 2), 18);
        alone.undo();
        Due.is("behind undo()", alone.irons(0, 20, 2), 9);
        alone.cut(0);
        alone.iron(0, 1);
        alone.iron(1, 1);
        Due.is("none is better", alone.irons(0, 1, 0), NONE);
        Due.is("none: its row", alone.irons(0, 1, 1), NONE);
        Due.is("none: its FIELD", alone.irons(0, 1, 2), NONE);
        int[] before = Due.imageOf(alone);
        alone.set(0);
        Due.is("behind set()", alone.irons(0, 2, 1), 0);
        Due.is("another n", alone.irons(0, 5, 2), 19);
        Due.takes(alone, before);
        Due.is("behind on()", alone.irons(0, 1, 1), NONE);
        Due.slope(alone, "slope 2 by 10;steep 0 2;steep 1 2;fence a row 1 age 0;");
        Due.is("behind slope()", alone.irons(0, 1, 1), 1);
        Due.is("a POST in row 0", Due.on("slope 1 by 4;fence a row 0 age 0;").irons(0, 1, 1), 0);
        Due.is("on the way", Due.on("slope 1 by 30;iron 0 0;fence a row 0 age 0;fence b row 4 age 0;steep 0 9;")
                .irons(1, 1, 1), 4);
        Due.is("for another's stake", Due.on("slope 1 by 30;iron 0 4;fence a row 0 age 0;fence b row 4 age 0;steep 0 4;")
                .irons(1, 1, 0), 0);
        WalkFence full = Due.on("slope 2 by 30;fence a row 1 age 0;");
        for (int r = 6; r < 29; r++) {
            full.iron(1, r);
        }
        Due.is("23 POSTS", full.irons(0, 1, 1), 1);
        full.iron(1, 29);
        Due.is("24 POSTS", full.irons(0, 1, 1), NONE);
    }

    private static void restOfSets() {
        Due.about("promise 19");
        WalkFence x = Due.on("slope 1 by 4;fence a row 3 age 0;fence b row 0 age 99;");
        Due.is("rest(1)", x.rest(1), 3);
        x.cut(1);
        Due.is("whichever is CUT now", x.rest(1), 3);
        Due.is("no set", Due.on(COAST).rest(1), NONE);
        Due.is("no FENCES", Due.on(BARE).rest(1), 0);
        Due.is("nothing walks", Due.on(BARE + "steep 0 0;fence a row 3 age 0;").rest(30), 0);
        Due.is("the second alone", Due.on("slope 1 by 9;steep 0 2;iron 0 1;fence a row 1 age 0;fence b row 4 age 0;"
                + "roots year<0;").rest(1), 2);
        // Each goes if it is not CUT, and the upper one has all if the lower one goes: any one of them, the least bits.
        Due.is("of the fewest", Due.on("slope 1 by 9;steep 0 0;fence a row 3 age 0;fence b row 4 age 0;fence c row 4 age 0;")
                .rest(2), 0);
        Due.is("the third alone", Due.on("slope 2 by 9;steep 0 9;steep 1 0;fence a row 3 age 0;fence b row 3 age 0;"
                + "fence c row 8 age 0;roots left<1;walks steep*(row/8);").rest(1), 4);
        Due.is("rest(0)", x.rest(0), NONE);
        Due.is("rest(31)", x.rest(31), NONE);
        Due.is("none is CUT by it", Due.on(COAST).has(6), 0);
    }

    private static void seeing() {
        Due.about("promise 20");
        WalkFence x = Due.on(COAST);
        Due.is("two rows", Due.sees(x, 0, 0, 0, 2, 0, 255), 2);
        Due.is("has(9)", x.has(9), 2);
        Due.is("the tape goes", x.end(1), false);
        Due.is("nothing", Due.sees(x), NONE);
        Due.is("four bytes", Due.sees(x, 0, 0, 0, 0), NONE);
        Due.is("a column", Due.sees(x, 3, 0, 0), NONE);
        Due.is("a row", Due.sees(x, 0, 8, 0), NONE);
        Due.is("a FENCE", Due.sees(x, 0, 0, 2), NONE);
        Due.is("the second row", Due.sees(x, 0, 0, 0, 9, 0, 0), NONE);
        Due.is("all stays", x.has(9), 2);
        Due.is("refused", x.status(1), 6);
        Due.is("16 rows", Due.sees(x, new int[48]), 16);
        Due.is("17 rows", Due.sees(x, new int[51]), NONE);
        Due.is("instead of those", Due.sees(x, 0, 0, 0), 1);
        Due.is("the tape goes, refused", Due.sees(x, 1), NONE);
        Due.is("the tape is gone", x.end(1), false);
        Due.is("without a slope", Due.sees(new WalkFence(), 0, 0, 255), NONE);
    }

    private static void fitsAndTells() {
        Due.about("promises 21, 22");
        WalkFence x = Due.on("slope 1 by 10;fence a row 0 age 0;");
        // Behind n YEARS the stake is in row n; from 10 on it is GONE.
        Due.is("nothing SEEN", x.fits(0), 31);
        Due.is("the first", x.fits(1), 0);
        Due.is("the last", x.fits(2), 30);
        Due.is("fits(3)", x.fits(3), NONE);
        Due.is("fits(-1)", x.fits(-1), NONE);
        Due.is("telling row", x.tells(1), 9);
        Due.is("telling left", x.tells(2), 21);
        Due.sees(x, 0, 6, 0, 0, 2, 255);
        Due.is("fits(0)", x.fits(0), 4);
        Due.is("fits(1)", x.fits(1), 3);
        Due.is("fits(2)", x.fits(2), 6);
        Due.is("tells(0)", x.tells(0), 0);
        Due.is("tells(1)", x.tells(1), 4);
        Due.is("tells(2)", x.tells(2), 2);
        Due.is("tells(3)", x.tells(3), NONE);
        Due.is("tells(-1)", x.tells(-1), NONE);
        x.years(2);
        Due.is("from now on", x.fits(1), 1);
        Due.sees(x, 0, 6, 0, 0, 6, 255);
        Due.is("none fits", x.fits(0), 0);
        Due.is("no first", x.fits(1), NONE);
        Due.is("no last", x.fits(2), NONE);
        for (int what = 0; what < 3; what++) {
            Due.is("none tells", x.tells(what), NONE);
            Due.is("without a slope", new WalkFence().tells(what), NONE);
            Due.is("without a slope", new WalkFence().fits(what), NONE);
        }
        WalkFence moor = Due.on("slope 2 by 4;");
        Due.is("the first place", moor.tells(0) + moor.tells(1), 0);
        Due.is("tells nothing", moor.tells(2), 31);
        WalkFence three = Due.on("slope 1 by 4;fence a row 0 age 0;fence b row 0 age 0;fence c row 0 age 0;stake c 0 row 2;"
                + "roots year=0 and age=1;");
        Due.is("all fit", three.fits(0), 31);
        Due.sees(three, 0, 3, 2);
        Due.is("c has the last row", three.fits(0), 1 + 0);
        Due.sees(three, 0, 0, 0, 0, 1, 255);
        Due.is("none fits", three.tells(0), NONE);
        Due.sees(three, 0, 3, 0);
        Due.is("one group", three.tells(2) < three.fits(0), true);
        WalkFence two = Due.on("slope 2 by 4;steep 0 0;fence a row 3 age 0;fence b row 2 age 0;stake b 1 row 1;roots left<2;");
        Due.is("column by column", two.tells(0), 1);
    }

    private static void setAndCut() {
        Due.about("promises 23, 24");
        WalkFence x = Due.on("slope 2 by 5;fence a row 4 age 9;fence b row 1 age 1;");
        x.years(1);
        Due.is("GONE", x.fence(0, 2), 0);
        Due.is("set(0)", x.set(0), true);
        Due.is("stakes", x.fence(0, 2), 2);
        Due.is("row 0", x.stake(0, 1), 0);
        Due.is("age 0", x.fence(0, 0), 0);
        Due.is("not KEPT", x.has(8), 2);
        Due.is("set(2)", x.set(2), false);
        Due.is("set(-1)", x.set(-1), false);
        Due.is("cut(1)", x.cut(1), true);
        Due.is("fence(1, 3)", x.fence(1, 3), 1);
        Due.is("cut(1) twice", x.cut(1), false);
        Due.is("cut(2)", x.cut(2), false);
        Due.is("cut(-1)", x.cut(-1), false);
        Due.is("status(2)", x.status(2), 5);
        Due.is("set(1)", x.set(1), true);
        Due.is("CUT still", x.fence(1, 3), 1);
        x.years(1);
        Due.is("stays", x.stake(1, 0), 0);
        Due.is("CUT till the YEAR is over", x.cut(1), true);
    }

    private static void ironDriven() {
        Due.about("promise 25");
        WalkFence x = Due.on("slope 1 by 30;iron 0 7;fence a row 0 age 0;");
        Due.is("iron(0, 2)", x.iron(0, 2), 2);
        Due.is("one is there", x.iron(0, 2), NONE);
        Due.is("one was told", x.iron(0, 7), NONE);
        Due.is("iron(1, 0)", x.iron(1, 0), NONE);
        Due.is("iron(0, 30)", x.iron(0, 30), NONE);
        Due.is("iron(-1, 0)", x.iron(-1, 0), NONE);
        Due.is("iron(0, -1)", x.iron(0, -1), NONE);
        x.years(9);
        Due.is("it holds", x.stake(0, 0), 2);
        for (int r = 8; r < 30; r++) {
            Due.is("iron(0, " + r + ")", x.iron(0, r), r - 5);
        }
        Due.is("24 are", x.iron(0, 0), NONE);
        Due.is("has(4)", x.has(4), 24);
        Due.is("status(2)", x.status(2), 7);
    }

    private static void yearsRefused() {
        Due.about("promises 26, 27");
        WalkFence x = Due.on(BARE);
        Due.is("years(0)", x.years(0), NONE);
        Due.is("years(101)", x.years(101), NONE);
        Due.is("years(100)", x.years(100), 0);
        Due.is("chance(0)", x.chance(0), NONE);
        Due.is("chance(101)", x.chance(101), NONE);
        Due.is("chance(-1)", x.chance(-1), NONE);
        Due.is("chance(100)", x.chance(100), 0);
        Due.is("status(3)", x.status(3), 5);
        Due.is("YEAR", x.has(3), 200);
        Due.is("ACTS", x.has(10), 2);
    }

    /** The YEAR is 999 at most: what would go beyond it can't be, by an image's YEAR or by YEARS that came. */
    private static void yearsToTheLast() {
        Due.about("promises 26, 27: YEAR 999");
        WalkFence x = Due.on("slope 1 by 9;steep 0 2;fence a row 4 age 7;tide 60;");
        Due.is("YEAR 997", Due.takes(x, Due.checked(3, 229, 0, 7, 1, 4)), true);
        Due.is("years(3)", x.years(3), NONE);
        Due.is("chance(3)", x.chance(3), NONE);
        Due.is("chance(100)", x.chance(100), NONE);
        Due.is("status(3)", x.status(3), 3);
        Due.is("all stays: YEAR", x.has(3), 997);
        Due.is("all stays: ACTS", x.has(10), 0);
        Due.is("all stays: CUT", x.has(6), 1);
        Due.is("all stays: age", x.fence(0, 0), 7);
        Due.is("years(2)", x.years(2), 0);
        Due.is("YEAR 999", x.has(3), 999);
        Due.is("row", x.stake(0, 0), 6);
        Due.is("years(1)", x.years(1), NONE);
        Due.is("chance(1)", x.chance(1), NONE);
        Due.is("status(3)", x.status(3), 5);
        Due.is("undo()", x.undo(), true);
        WalkFence fresh = Due.on("slope 1 by 9;steep 0 2;fence a row 4 age 7;tide 60;");
        fresh.cut(0);
        Due.is("what is refused DRAWS nothing", x.chance(2), fresh.chance(2));
        Due.is("alike", x.stake(0, 0), fresh.stake(0, 0));
        Due.is("to YEAR 999", x.has(3), 999);
        Due.is("none behind it", x.chance(1), NONE);
    }

    private static void chanceBySeed() {
        Due.about("promises 27, 29");
        WalkFence x = Due.on("slope 2 by 5;steep 0 0;steep 1 0;fence a row 4 age 9;fence b row 1 age 1;tide 100;");
        // By the seed 1: 17 (of 100), then a FENCE, a column, reckoned here once more.
        long seed = 1;
        boolean[][] gone = new boolean[2][2];
        int kept = 0;
        for (int year = 0; year < 6; year++) {
            seed = (1103515245L * seed + 12345) % 2147483648L;
            seed = (1103515245L * seed + 12345) % 2147483648L;
            int fence = (int) (seed / 64 % 2);
            seed = (1103515245L * seed + 12345) % 2147483648L;
            int column = (int) (seed / 64 % 2);
            Due.is("chance(1)", x.chance(1), 1);
            Due.is("the stake is GONE", x.stake(fence, column), NONE);
            if (!gone[fence][column]) {
                Due.is("KEPT: YEAR", x.kept(kept, 0), year);
                Due.is("KEPT: FENCE", x.kept(kept, 1), fence);
                Due.is("KEPT: column", x.kept(kept, 2), column);
                kept++;
            }
            gone[fence][column] = true;
            Due.is("KEPT", x.has(8), kept);
        }
        Due.is("the seed 1 at first", Due.on(COAST).chance(40), withSeed(1).chance(40));
        WalkFence none = withSeed(0);
        Due.is("seed(-1)", none.seed(-1), false);
        Due.is("status(5)", none.status(5), 1);
        Due.is("without FENCES", Due.on(BARE + "tide 100;").chance(50), 0);
        WalkFence draws = Due.on(BARE + "tide 50;fence a row 0 age 0;");
        draws.seed(2147483647);
        Due.is("the greatest seed", draws.chance(100), tides(2147483647L));
    }

    private static WalkFence withSeed(int seed) {
        WalkFence x = Due.on(COAST);
        Due.is("seed(" + seed + ")", x.seed(seed), true);
        return x;
    }

    /** How many tides of 50 in 100 YEARS, one FENCE, one column. */
    private static int tides(long from) {
        long seed = from;
        int tides = 0;
        for (int year = 0; year < 100; year++) {
            seed = (1103515245L * seed + 12345) % 2147483648L;
            if (seed / 64 % 100 < 50) {
                tides++;
                seed = (1103515245L * seed + 12345) % 2147483648L;
                seed = (1103515245L * seed + 12345) % 2147483648L;
            }
        }
        return tides;
    }

    private static void undoing() {
        Due.about("promise 28");
        WalkFence x = Due.on("slope 2 by 5;fence a row 3 age 9;fence b row 1 age 1;tide 100;");
        Due.is("none", x.undo(), false);
        x.cut(0);
        x.iron(0, 4);
        x.set(1);
        x.years(1);
        x.chance(9);
        Due.is("undo chance()", x.undo(), true);
        Due.is("YEAR", x.has(3), 1);
        Due.is("KEPT", x.has(8), 0);
        Due.is("undo years()", x.undo(), true);
        Due.is("CUT", x.fence(0, 3), 1);
        Due.is("age", x.fence(0, 0), 9);
        Due.is("undo set()", x.undo(), true);
        Due.is("row", x.stake(1, 0), 1);
        Due.is("its age", x.fence(1, 0), 1);
        Due.is("undo iron()", x.undo(), true);
        Due.is("POSTS", x.has(4), 0);
        Due.is("undo cut()", x.undo(), true);
        Due.is("CUT no more", x.has(6), 0);
        Due.is("all are undone", x.undo(), false);
        Due.is("status(4)", x.status(4), 2);
        for (int k = 0; k < 25; k++) {
            x.years(1);
        }
        Due.is("20 can be", x.has(10), 20);
        for (int k = 0; k < 20; k++) {
            Due.is("undo()", x.undo(), true);
        }
        Due.is("the 21st", x.undo(), false);
        Due.is("YEAR", x.has(3), 5);
        WalkFence y = Due.on(BARE + "tide 50;fence a row 0 age 0;");
        int first = y.chance(100);
        y.undo();
        WalkFence z = Due.on(BARE + "tide 50;fence a row 0 age 0;");
        Due.is("one seed", z.chance(100), first);
        Due.is("the seed stays", y.chance(100), z.chance(100));
        x.set(9);
        x.years(0);
        Due.is("what is refused can't be undone", x.has(10), 0);
    }

    private static void questions() {
        Due.about("promise 30");
        WalkFence x = Due.on(COAST);
        x.cut(1);
        Due.answers(x, "total age", 3);
        Due.answers(x, "total cut*10+number", 11);
        Due.answers(x, " most\nfield ", 14);
        Due.answers(x, "least field", 8);
        Due.answers(x, "least 0-field", -14);
        Due.answers(x, "total row 2*10", 80);
        Due.answers(x, "total row(1+1)", 8);
        Due.answers(x, "total row row 0", 0 + 2);
        Due.answers(x, "total row 3", -2);
        Due.answers(x, "total row(0-1)", -2);
        Due.answers(x, "total below 0", 2);
        Due.answers(x, "total below 1", 1);
        Due.answers(x, "total below 2", 0);
        Due.answers(x, "total below(0-1)", 0);
        Due.answers(x, "first all", 0);
        Due.answers(x, "last all", 1);
        Due.answers(x, "first cut=1", 1);
        Due.answers(x, "last age>0", 0);
        Due.answers(x, "first year>0", NONE);
        Due.answers(x, "last not all", NONE);
        Due.answers(x, "often left=3", 2);
        Due.answers(x, "often field>8", 1);
        Due.answers(x, "total min(number,5)+max(0,1)", 3);
        Due.answers(x, "most 9999*9999", 1000000);
        Due.answers(x, "most 5-number", 5);
        Due.answers(x, "most number-5", -4);
        Due.answers(x, "least number", 0);
        Due.answers(x, "least 5-number", 4);
        Due.answers(x, "total 9999*9999", 2000000);
        Due.answers(x, "total " + Due.many(6, "row ") + "0", Due.ask(x, "total row row row row row row 0"));
        x.years(1);
        Due.answers(x, "total year", 2);
        Due.answers(x, "total cut", 0);
        WalkFence none = Due.on(BARE);
        Due.answers(none, "total 1", 0);
        Due.answers(none, "most 1", 0);
        Due.answers(none, "least 1", 0);
        Due.answers(none, "often all", 0);
        Due.answers(none, "first all", NONE);
        Due.answers(none, "last all", NONE);
        WalkFence low = Due.on(BARE + "fence a row 9 age 0;");
        low.years(1);
        Due.answers(low, "total row 0", -1);
        Due.is("the tape goes", low.end(1), false);
        Due.slope(low, "slope 1 by 9;roots 1+1+1=2;walks 0;fence a row 0 age 0;");
        Due.slope(low, "slope 1 by 9;fence a row 0 age 0;");
        Due.answers(low, "total 1+2", 3);
        WalkFence bare = new WalkFence();
        Due.is("without a slope", Due.ask(bare, "often all"), NOTHING);
        Due.is("no FAULT", bare.fault(0), 0);
        Due.is("the tape goes without a slope", bare.end(1), false);
    }

    private static void questionFault(String text, int kind, int at) {
        Due.askFault(Due.on(COAST), text, kind, at);
    }

    private static void questionFaults() {
        Due.about("promise 30: FAULTS");
        questionFault("", 1, 0);
        questionFault("  ", 1, 2);
        questionFault(" age", 1, 1);
        questionFault("totals age", 1, 0);
        questionFault("total", 1, 5);
        questionFault("total ann", 1, 6);
        questionFault("total steep", 1, 6);
        questionFault("total1", 1, 5);
        questionFault("total age;", 1, 9);
        questionFault("total age age", 1, 10);
        questionFault("total age<2", 1, 9);
        questionFault("total all", 1, 6);
        questionFault("first age", 1, 9);
        questionFault("often all all", 1, 10);
        questionFault("total row", 1, 9);
        questionFault("total row0", 1, 9);
        questionFault("total row+1", 1, 9);
        questionFault("total 12345", 1, 10);
        questionFault("total " + Due.many(7, "row ") + "0", 4, 30);
        questionFault("total " + Due.many(3, "below row ") + "(0)", 4, 36);
        questionFault("first not not [row below (row 0)>0]", 4, 26);
        Due.is("row ends with its PART", Due.ask(Due.on(COAST), "total row 0+" + Due.many(5, "row ") + "0") != NOTHING, true);
    }

    private static final String SMALL = "slope 2 by 9;iron 1 3;iron 0 7;fence a row 8 age 3;fence b row 0 age 0;";

    private static void images() {
        Due.about("promises 31, 32, 33");
        WalkFence x = Due.on(SMALL);
        Due.is("octet() ahead of any", x.octet(0), NONE);
        x.iron(1, 0);
        x.years(1);
        x.cut(1);
        int[] due = Due.checked(0, 1, 3, 0, 7, 1, 0, 1, 3, 4, 0, 255, 255, 1, 1, 1, 0);
        int[] is = Due.imageOf(x);
        Due.is("image()", is.length, due.length);
        for (int k = 0; k < Math.min(is.length, due.length); k++) {
            Due.is("octet(" + k + ")", is[k], due[k]);
        }
        Due.is("octet() behind it", x.octet(due.length), NONE);
        Due.is("octet(-1)", x.octet(-1), NONE);
        x.years(100);
        x.years(100);
        x.years(100);
        Due.is("the latest image() stays", x.octet(1), 1);
        int[] late = Due.imageOf(x);
        Due.is("the higher first", late[0], 1);
        Due.is("the lower", late[1], 301 - 256);
        Due.sees(x, 0, 0, 255);
        Due.is("on()", Due.takes(x, due), true);
        Due.is("the tape goes", x.end(1), false);
        Due.is("YEAR", x.has(3), 1);
        Due.is("POSTS", x.has(4), 3);
        Due.is("a POST", x.place(1, 0, 1), 1);
        Due.is("CUT", x.fence(1, 3), 1);
        Due.is("not CUT", x.fence(0, 3), 0);
        Due.is("age", x.fence(0, 0), 4);
        Due.is("GONE", x.stake(0, 0), NONE);
        Due.is("row", x.stake(1, 0), 1);
        Due.is("nothing is KEPT", x.has(8), 0);
        Due.is("nothing can be undone", x.has(10), 0);
        Due.is("SEEN stays", x.has(9), 1);
    }

    private static void imagesRefused() {
        Due.about("promise 33: refused");
        WalkFence x = Due.on(SMALL);
        int[] good = Due.checked(0, 0, 1, 0, 7, 3, 0, 8, 8, 0, 0, 0, 0);
        x.years(3);
        int[][] wrong = {
            {}, {0}, {0, 0, 0}, Due.checked(0, 0, 0), java.util.Arrays.copyOf(good, good.length - 1),
            java.util.Arrays.copyOf(good, good.length + 1),
            Due.checked(3, 232, 1, 0, 7, 3, 0, 8, 8, 0, 0, 0, 0),
            Due.checked(0, 0, 1, 2, 7, 3, 0, 8, 8, 0, 0, 0, 0),
            Due.checked(0, 0, 1, 0, 9, 3, 0, 8, 8, 0, 0, 0, 0),
            Due.checked(0, 0, 1, 0, 7, 100, 0, 8, 8, 0, 0, 0, 0),
            Due.checked(0, 0, 1, 0, 7, 3, 2, 8, 8, 0, 0, 0, 0),
            Due.checked(0, 0, 1, 0, 7, 3, 0, 9, 8, 0, 0, 0, 0),
            Due.checked(0, 0, 1, 0, 7, 3, 0, 8, 8, 0, 0, 0, 254),
            Due.checked(0, 0, 2, 0, 7, 0, 7, 3, 0, 8, 8, 0, 0, 0, 0),
            Due.checked(0, 0, 2, 0, 7, 0, 6, 3, 0, 8, 8, 0, 0, 0, 0),
            Due.checked(0, 0, 2, 1, 0, 0, 7, 3, 0, 8, 8, 0, 0, 0, 0),
            Due.checked(0, 0, 0, 3, 0, 8, 8, 0, 0, 0, 0, 0),
        };
        for (int k = 0; k < wrong.length; k++) {
            Due.is("on() of the wrong one " + k, Due.takes(x, wrong[k]), false);
        }
        int[] spoiled = good.clone();
        spoiled[spoiled.length - 1] ^= 1;
        Due.is("the last byte", Due.takes(x, spoiled), false);
        Due.is("the tape goes", x.end(1), false);
        Due.is("status(5)", x.status(5), wrong.length + 1);
        Due.is("all stays: YEAR", x.has(3), 3);
        Due.is("all stays: ACTS", x.has(10), 1);
        Due.is("all stays: POSTS", x.has(4), 2);
        Due.is("the right one", Due.takes(x, good), true);
        Due.is("YEAR 999", Due.takes(x, Due.checked(3, 231, 0, 99, 1, 255, 8, 0, 0, 0, 0)), true);
        Due.is("has(3)", x.has(3), 999);
        Due.is("without a slope", Due.takes(new WalkFence(), 0, 0, 0, 23), false);
        WalkFence wide = Due.on("slope 1 by 30;");
        Due.is("24 POSTS", Due.takes(wide, posts(24)), true);
        Due.is("has(4)", wide.has(4), 24);
        Due.is("25 POSTS", Due.takes(wide, posts(25)), false);
    }

    private static void largestImage() {
        Due.about("promises 31, 33: the largest");
        StringBuilder text = new StringBuilder("slope 6 by 30;");
        for (char name = 'a'; name < 'g'; name++) {
            text.append("fence ").append(name).append(" row 29 age 99;");
        }
        WalkFence x = Due.on(text.toString());
        for (int k = 0; k < 24; k++) {
            x.iron(k % 6, 29 - k / 6);
        }
        int[] bytes = Due.imageOf(x);
        Due.is("image()", bytes.length, 3 + 2 * 24 + 6 * 8 + 1);
        Due.is("the last stake", bytes[98], 29);
        Due.is("the last byte", bytes[99], Due.checked(java.util.Arrays.copyOf(bytes, 99))[99]);
        Due.is("on()", Due.takes(Due.on(text.toString()), bytes), true);
    }

    private static int[] posts(int n) {
        int[] bytes = new int[3 + 2 * n];
        bytes[2] = n;
        for (int k = 0; k < n; k++) {
            bytes[4 + 2 * k] = k;
        }
        return Due.checked(bytes);
    }

    private static void statuses() {
        Due.about("promise 34");
        WalkFence x = new WalkFence();
        int[] due = {1, 2, 3, 2, 1, 2};
        x.end(1);
        x.slope();
        x.see();
        x.set(0);
        x.cut(0);
        x.iron(0, 0);
        x.years(1);
        x.chance(1);
        x.undo();
        x.seed(-1);
        x.on();
        x.ask();
        for (int what = 0; what < due.length; what++) {
            Due.is("status(" + what + ")", x.status(what), due[what]);
        }
        Due.is("status(6)", x.status(6), NONE);
        Due.is("status(-1)", x.status(-1), NONE);
        Due.slope(x, BARE);
        Due.is("a slope changes none", x.status(2), 3);
    }
}
