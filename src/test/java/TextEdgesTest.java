/** The edges that the document names for the tape and for a SLOPE's text: promises 2 to 5 and 7, terms I. */
final class TextEdgesTest {
    private static final int NONE = WalkFence.NONE;
    /** 13 bytes; places of FAULTS are told from what stands behind it on. */
    private static final String HEAD = "slope 3 by 8;";
    private static final String FENCE = "fence f row 0 age 0;";
    private static final String[] OWN_WORDS = {"slope", "by", "steep", "iron", "fence", "row", "age", "stake", "walks",
        "roots", "tide", "year", "left", "number", "field", "cut", "first", "below", "or", "and", "not", "all", "min",
        "max"};
    private static final String[] OTHER_WORDS = {"last", "often", "total", "most", "least"};

    private TextEdgesTest() {
    }

    public static void main(String[] args) {
        tapeIsFull();
        tapeIsBehind();
        endOfTape();
        endLeavesTheFirst();
        cutOffBytes();
        tapeGoes();
        longestText();
        noStatement();
        eightyStatements();
        allIsAsAtFirst();
        columnsAndRows();
        slopeFirstAndAlone();
        steepEdges();
        ironEdges();
        twelvePosts();
        fenceEdges();
        sixFences();
        stakeEdges();
        walksAndRootsOnce();
        withoutWalksAndRoots();
        tideEdges();
        digits();
        namesOfLetters();
        ownWords();
        unlikeNames();
        blanks();
        everyByte();
        sideBySide();
        endsTooSoon();
        firstAlongTheText();
        partsOfWalksAndRoots();
        slopeBehindQuestion();
        sixOpen();
        openByMinAndMax();
        notUntilItsFactEnds();
        sumsAreBounded();
        quotients();
        faultEdges();
        letterEdges();
        Due.end();
    }

    private static void behind(String text, int kind, int at) {
        Due.fault(HEAD + text, kind, HEAD.length() + at);
    }

    /** Right if it may be, else that FAULT so far behind HEAD. */
    private static void rightIf(boolean may, String text, int kind, int at) {
        if (may) {
            Due.right(HEAD + text, 1 + count(text, ';'));
        } else {
            behind(text, kind, at);
        }
    }

    private static int count(String text, char sign) {
        int n = 0;
        for (int k = 0; k < text.length(); k++) {
            n += text.charAt(k) == sign ? 1 : 0;
        }
        return n;
    }

    private static String filled(String text, int length) {
        return text + Due.many(length - text.length(), " ");
    }

    private static void tapeIsFull() {
        Due.about("promise 2: refused (0), if there would be more than 1600");
        WalkFence x = new WalkFence();
        Due.tape(x, Due.bytesOf(filled("slope 1 by 4;", 1580)));
        Due.is("feed() to the brim", x.feed(0x20202020, 0x20202020, 0x20202020, 0x20202020, 0x2020203b), 1600);
        Due.is("feed() beyond", x.feed(0, 0, 0, 0, 0), NONE);
        Due.is("feed() once more", x.feed(-1, -1, -1, -1, -1), NONE);
        Due.is("status(0)", x.status(0), 2);
        Due.is("end(1601)", x.end(1601), false);
        Due.is("end(1599)", x.end(1599), true);
        Due.is("feed() behind 1599", x.feed(0, 0, 0, 0, 0), NONE);
        Due.is("status(0)", x.status(0), 4);
        Due.is("what was refused left no byte", x.slope(), 1);
        for (int n = 1580; n < 1600; n++) {
            WalkFence y = new WalkFence();
            Due.tape(y, new int[n]);
            boolean may = n == 1580;
            Due.is("feed() behind " + n, y.feed(0, 0, 0, 0, 0), may ? 1600 : NONE);
            Due.is("status(0) behind " + n, y.status(0), may ? 0 : 1);
            Due.is("no more behind " + n, y.end(may ? 1601 : n + 1), false);
            Due.is("no fewer behind " + n, y.end(may ? 1600 : n), true);
        }
    }

    private static void tapeIsBehind() {
        Due.about("promise 2: twenty bytes come behind those on the tape, of each number the highest first");
        WalkFence x = new WalkFence();
        Due.is(" slo", x.feed(0x20202020, 0x20202020, 0x20202020, 0x20202020, 0x20736c6f), 20);
        Due.is("pe 1 by 4;", x.feed(0x70652031, 0x20627920, 0x343b2020, 0x20202020, 0x20202020), 40);
        Due.is("slope()", x.slope(), 1);
        // A byte above 127 in each of a number's four.
        Due.is("feed()", x.feed(0x0000ff00, 0x01ff0002, 0xff0003ff, 0x000000ff, 0), 20);
        Due.is("end(12)", x.end(12), true);
        Due.is("see()", x.see(), 4);
        Due.is("all is MOOR", x.fits(0), 31);
    }

    private static void endOfTape() {
        Due.about("promise 3: false, refused (0), if it has not so many, or n is below 0");
        WalkFence x = new WalkFence();
        Due.is("end(0) of none", x.end(0), true);
        Due.is("end(1) of none", x.end(1), false);
        Due.is("status(0)", x.status(0), 1);
        x.feed(0x736c6f70, 0x65203120, 0x62792034, 0x3b202020, 0x20202020);
        int[] wrong = {Integer.MIN_VALUE, -20, -1, 21, 22, 1600, Integer.MAX_VALUE};
        for (int k = 0; k < wrong.length; k++) {
            Due.is("end(" + wrong[k] + ")", x.end(wrong[k]), false);
            Due.is("status(0)", x.status(0), k + 2);
        }
        Due.is("end(20)", x.end(20), true);
        Due.is("the tape stays", x.slope(), 1);
    }

    private static void endLeavesTheFirst() {
        Due.about("promise 3: the tape has its first n bytes alone");
        WalkFence x = new WalkFence();
        x.feed(0x736c6f70, 0x65203120, 0x62792034, 0x3b292929, 0x29292929);
        Due.is("end(14)", x.end(14), true);
        Due.is("end(13)", x.end(13), true);
        Due.is("end(13) again", x.end(13), true);
        Due.is("no way back", x.end(14), false);
        Due.is("tide 9; behind it", x.feed(0x74696465, 0x20393b20, 0x20202020, 0x20202020, 0x20202020), 33);
        Due.is("slope()", x.slope(), 2);
        x.feed(0, 0, 0, 0, 0);
        Due.is("end(0)", x.end(0), true);
        Due.is("an empty tape", x.feed(0, 0, 0, 0, 0), 20);
    }

    /** What was cut off, or on the tape of an earlier text, must not come back behind the last byte. */
    private static void cutOffBytes() {
        Due.about("promise 3: the tape has its first n bytes alone, words and numbers end there");
        String text = "slope 3 by 8;fence abc row 7 age 99;";
        int[] words = Due.words(Due.bytesOf(text));
        // For each length the place of its FAULT 1; 0 stands for a right text.
        int[] faults = {0, 0, 0, 0, 0, 5, 6, 7, 8, 8, 10, 11, 12, 0, 13, 13, 13, 13, 18, 19, 20, 21, 22, 23, 23, 23, 26, 27,
            28, 29, 29, 29, 32, 33, 34, 35, 0};
        for (int n = 0; n <= text.length(); n++) {
            WalkFence x = new WalkFence();
            for (int k = 0; k < words.length; k += 5) {
                x.feed(words[k], words[k + 1], words[k + 2], words[k + 3], words[k + 4]);
            }
            Due.is("end(" + n + ")", x.end(n), true);
            int statements = n == text.length() ? 2 : n == 13 ? 1 : NONE;
            Due.is("slope() of the first " + n, x.slope(), statements);
            Due.is("fault(0) of the first " + n, x.fault(0), statements == NONE ? 1 : 0);
            Due.is("fault(1) of the first " + n, x.fault(1), statements == NONE ? faults[n] : NONE);
        }
    }

    private static void tapeGoes() {
        Due.about("promises 4, 20, 30, 33: the tape (it goes)");
        WalkFence bare = new WalkFence();
        Due.is("slope() with a FAULT", Due.slope(bare, "slope 9"), NONE);
        emptied("slope() with a FAULT", bare);
        Due.is("see() without a slope", Due.sees(bare, 0, 0, 255), NONE);
        emptied("see() without a slope", bare);
        Due.is("on() without a slope", Due.takes(bare, 0, 0, 0, 23), false);
        emptied("on() without a slope", bare);
        Due.is("ask() without a slope", Due.ask(bare, "often all"), WalkFence.NOTHING);
        emptied("ask() without a slope", bare);
        WalkFence told = Due.on(HEAD + FENCE);
        emptied("slope()", told);
        Due.is("see()", Due.sees(told, 0, 0, 0), 1);
        emptied("see()", told);
        Due.is("see(), refused", Due.sees(told, 9, 9, 9), NONE);
        emptied("see(), refused", told);
        Due.is("ask()", Due.ask(told, "often all"), 1);
        emptied("ask()", told);
        Due.is("ask() with a FAULT", Due.ask(told, "often"), WalkFence.NOTHING);
        emptied("ask() with a FAULT", told);
        Due.is("on()", Due.takes(told, Due.imageOf(told)), true);
        emptied("on()", told);
        Due.is("on(), refused", Due.takes(told, 1, 2, 3), false);
        emptied("on(), refused", told);
    }

    private static void emptied(String behind, WalkFence x) {
        Due.is("the tape behind " + behind, x.feed(0, 0, 0, 0, 0), 20);
        x.end(0);
    }

    private static void longestText() {
        Due.about("promises 2, 4, 5: a text of 1600 bytes");
        Due.right(Due.many(1587, " ") + "slope 1 by 4;", 1);
        Due.fault(filled("slope 1 by 4", 1600), 1, 1600);
        Due.fault(filled("", 1600), 1, 1600);
        Due.fault(Due.many(1587, " ") + "slope 1 by 3;", 2, 1598);
        String start = "slope 1 by 4;fence f row 0 age 7;";
        String sum = start + "walks 1" + Due.many(777, "+1") + "-774;";
        Due.is("a long SUM", Due.right(filled(sum, 1600), 3).walks(0, 0), 4);
        String test = start + "roots all" + Due.many(194, " and all") + ";";
        WalkFence x = Due.right(filled(test, 1600), 3);
        x.years(1);
        Due.is("a long TEST", x.fence(0, 0), 0);
        String both = start + "roots 0" + Due.many(380, "+1") + "=380;walks 1" + Due.many(380, "+1") + "-378;";
        WalkFence y = Due.right(filled(both, 1600), 4);
        Due.is("both: SUM", y.walks(0, 0), 3);
        y.years(1);
        Due.is("both: TEST", y.fence(0, 0), 0);
    }

    private static void noStatement() {
        Due.about("promise 4: one without a STATEMENT has FAULT 1 at its length");
        for (int n = 0; n <= 40; n += 8) {
            Due.fault(Due.many(n, " "), 1, n);
            Due.fault(Due.many(n, "\n "), 1, 2 * n);
        }
        Due.fault(";", 1, 0);
        Due.fault("  ;", 1, 2);
    }

    private static void eightyStatements() {
        Due.about("terms I: 80 STATEMENTS at most; FAULT 5 of an 81st, whatever stands there, at its first byte");
        String full = Due.many(79, "tide 1;");
        Due.right(HEAD + Due.many(78, "tide 1;"), 79);
        Due.right(HEAD + full, 80);
        Due.right(HEAD + full + " \n ", 80);
        String[] more = {"tide 1;", "t", "slope 3 by 8;", ";", ")", "9", "12345", "iron 9 9;", "walks ((((((((", "\t",
            "\u00ff", "abcdefg", "stake x 0 row 0;"};
        for (String one : more) {
            behind(full + one, 5, full.length());
            behind(full + " \n" + one, 5, full.length() + 2);
        }
        behind(Due.many(78, "tide 1;") + "tide 1", 1, full.length() - 1);
        behind(Due.many(78, "tide 1;") + "tide 101;tide 1;", 2, full.length() - 2);
    }

    private static void allIsAsAtFirst() {
        Due.about("promise 4: all is as at first, nothing is KEPT, SEEN or can be undone; the seed stays");
        String text = "slope 1 by 4;iron 0 2;fence a row 3 age 5;fence b row 0 age 6;tide 50;";
        WalkFence x = Due.on(text);
        WalkFence y = new WalkFence();
        x.seed(12345);
        y.seed(12345);
        x.years(3);
        x.cut(1);
        x.iron(0, 0);
        x.set(0);
        Due.sees(x, 0, 3, 0);
        int[] was = {1, 4, 2, 3, 2, 2, 1, 0, 1, 1, 4};
        int[] due = {1, 4, 2, 0, 1, 2, 0, 0, 0, 0, 0};
        for (int what = 0; what <= 10; what++) {
            Due.is("ahead of it has(" + what + ")", x.has(what), was[what]);
        }
        Due.is("slope()", Due.slope(x, text), 5);
        Due.slope(y, text);
        for (int what = 0; what <= 10; what++) {
            Due.is("has(" + what + ")", x.has(what), due[what]);
        }
        Due.is("row", x.stake(0, 0), 3);
        Due.is("age", x.fence(0, 0), 5);
        Due.is("a POST that was driven in", x.place(0, 0, 1), 0);
        Due.is("a POST that was told", x.place(0, 2, 1), 1);
        Due.is("undo()", x.undo(), false);
        Due.is("fits all", x.fits(0), 31);
        for (int k = 0; k < 9; k++) {
            Due.is("the seed stays", x.chance(1), y.chance(1));
            Due.is("stakes", x.has(5), y.has(5));
        }
    }

    private static void columnsAndRows() {
        Due.about("terms I: slope N by N (1 .. 6 columns, 4 .. 30 rows)");
        for (int n = 0; n <= 12; n++) {
            if (n >= 1 && n <= 6) {
                Due.is("columns", Due.right("slope " + n + " by 4;", 1).has(0), n);
            } else {
                Due.fault("slope " + n + " by 4;", 2, 6);
            }
        }
        for (int n = 0; n <= 40; n++) {
            if (n >= 4 && n <= 30) {
                Due.is("rows", Due.right("slope 6 by " + n + ";", 1).has(1), n);
            } else {
                Due.fault("slope 6 by " + n + ";", 2, 11);
            }
        }
        Due.fault("slope 9999 by 4;", 2, 6);
        Due.fault("slope 6 by 9999;", 2, 11);
    }

    private static void slopeFirstAndAlone() {
        Due.about("terms I: slope is the first STATEMENT, and it alone");
        String[] others = {"steep 0 1;", "iron 0 0;", FENCE, "stake f 0 row 0;", "walks 1;", "roots all;", "tide 1;"};
        for (String other : others) {
            Due.fault(other + HEAD, 1, 0);
            Due.fault(" " + other + HEAD, 1, 1);
        }
        behind(HEAD, 1, 0);
        behind("tide 1; " + HEAD, 1, 8);
    }

    private static void steepEdges() {
        Due.about("terms I: steep N N (a column, from 0 on, 0 .. 9; the last one of a column counts, 1 without)");
        for (int n = 0; n <= 12; n++) {
            rightIf(n < 3, "steep " + n + " 5;", 2, 6);
            rightIf(n <= 9, "steep 2 " + n + ";", 2, 8);
        }
        Due.right("slope 6 by 4;steep 5 9;", 2);
        Due.fault("slope 6 by 4;steep 6 9;", 2, 19);
        Due.fault("slope 1 by 4;steep 1 9;", 2, 19);
        WalkFence x = Due.on(HEAD + "steep 0 3;steep 1 0;" + FENCE + "steep 0 9;steep 1 4;");
        int[] due = {9, 4, 1};
        for (int c = 0; c < 3; c++) {
            Due.is("walks(0, " + c + ")", x.walks(0, c), due[c]);
        }
    }

    private static void ironEdges() {
        Due.about("terms I: iron N N (a column, a row from 0 on, not told already), FAULT 2 at the row");
        for (int n = 0; n <= 12; n++) {
            rightIf(n < 3, "iron " + n + " 5;", 2, 5);
            rightIf(n < 8, "iron 2 " + n + ";", 2, 7);
        }
        Due.is("the last place", Due.right("slope 6 by 30;iron 5 29;", 2).place(5, 29, 1), 1);
        Due.is("the first place", Due.right("slope 6 by 30;iron 0 0;", 2).place(0, 0, 1), 1);
        behind("iron 1 2;iron 1 2;", 2, 16);
        behind("iron 1 2;iron 0 2;iron 2 2;iron 1 3;iron  01   002;", 2, 47);
        WalkFence x = Due.right(HEAD + "iron 1 2;iron 0 2;iron 1 3;", 4);
        Due.is("POSTS", x.has(4), 3);
    }

    private static String posts(int n) {
        StringBuilder s = new StringBuilder();
        for (int k = 0; k < n; k++) {
            s.append("iron ").append(k % 3).append(' ').append(k / 3).append(';');
        }
        return s.toString();
    }

    private static void twelvePosts() {
        Due.about("terms I: 12 POSTS; FAULT 5 of a 13th at its first byte");
        for (int n = 0; n <= 12; n++) {
            Due.is("POSTS", Due.right(HEAD + posts(n), n + 1).has(4), n);
        }
        String[] more = {"iron 2 7;", "iron 0 0;", "iron 9 9;", "iron", "iron;", "iron x"};
        for (String one : more) {
            behind(posts(12) + one, 5, 108);
        }
        Due.right(HEAD + posts(12) + "tide 1;", 14);
    }

    private static void fenceEdges() {
        Due.about("terms I: fence NAME row N age N (0 .. 99 each, a row of the SLOPE)");
        for (int n = 0; n <= 12; n++) {
            rightIf(n < 8, "fence f row " + n + " age 0;", 2, 12);
        }
        for (int n = 90; n <= 110; n++) {
            rightIf(n <= 99, "fence f row 7 age " + n + ";", 2, 18);
        }
        WalkFence x = Due.right("slope 6 by 30;fence f row 29 age 99;", 2);
        Due.is("row 29", x.stake(0, 5), 29);
        Due.is("age 99", x.fence(0, 0), 99);
        int[] beyond = {30, 31, 99, 100, 9999};
        for (int row : beyond) {
            Due.fault("slope 6 by 30;fence f row " + row + " age 99;", 2, 26);
        }
        behind("fence f row 7 age 9999;", 2, 18);
    }

    private static String fences(int n) {
        StringBuilder s = new StringBuilder();
        for (int k = 0; k < n; k++) {
            s.append("fence ").append((char) ('a' + k)).append(" row 0 age 0;");
        }
        return s.toString();
    }

    private static void sixFences() {
        Due.about("terms I: 6 FENCES; FAULT 5 of a 7th at its first byte");
        for (int n = 0; n <= 6; n++) {
            Due.is("FENCES", Due.right(HEAD + fences(n), n + 1).has(2), n);
        }
        String[] more = {"fence g row 0 age 0;", "fence a row 0 age 0;", "fence g row 99 age 0;", "fence", "fence row",
            "fence;", "fence9"};
        for (String one : more) {
            behind(fences(6) + one, 5, 120);
        }
        Due.is("the 6th's stake", Due.right(HEAD + fences(6) + "stake f 2 row 7;", 8).stake(5, 2), 7);
    }

    private static void stakeEdges() {
        Due.about("terms I: stake NAME N row N (a FENCE, a column, a row; the last one counts)");
        for (int n = 0; n <= 12; n++) {
            rightIf(n < 3, FENCE + "stake f " + n + " row 5;", 2, 28);
            rightIf(n < 8, FENCE + "stake f 2 row " + n + ";", 2, 34);
        }
        WalkFence x = Due.on(HEAD + fences(2) + "stake b 1 row 7;stake b 1 row 3;stake b 2 row 0;stake a 0 row 6;");
        int[] a = {6, 0, 0};
        int[] b = {0, 3, 0};
        for (int c = 0; c < 3; c++) {
            Due.is("stake(0, " + c + ")", x.stake(0, c), a[c]);
            Due.is("stake(1, " + c + ")", x.stake(1, c), b[c]);
        }
    }

    private static void walksAndRootsOnce() {
        Due.about("terms I: walks SUM, roots TEST (one each); FAULT 5 of a second at its first byte");
        Due.right(HEAD + "walks 1;roots all;", 3);
        Due.right(HEAD + "roots all;walks 1;", 3);
        behind("walks 1;walks 1;", 5, 8);
        behind("walks 0; roots all;\nwalks", 5, 20);
        behind("walks 1;walks ((((((((", 5, 8);
        behind("roots all;roots all;", 5, 10);
        behind("roots not all; walks 1;  roots", 5, 25);
        behind("roots all;roots;", 5, 10);
    }

    private static void withoutWalksAndRoots() {
        Due.about("terms I: without, walks is steep, roots never");
        for (int n = 0; n <= 9; n++) {
            WalkFence x = Due.on("slope 2 by 30;steep 1 " + n + ";" + FENCE);
            Due.is("walks is steep", x.walks(0, 1), n);
            Due.is("without steep", x.walks(0, 0), 1);
            x.years(1);
            Due.is("row", x.stake(0, 1), n);
            x.years(100);
            Due.is("never SET", x.fence(0, 0), 99);
            Due.is("no stake stands", x.fence(0, 2), n == 0 ? 1 : 0);
        }
    }

    private static void tideEdges() {
        Due.about("terms I: tide N (0 .. 100; the last one counts, 0 without)");
        for (int n = 95; n <= 105; n++) {
            rightIf(n <= 100, "tide " + n + ";", 2, 5);
        }
        behind("tide 9999;", 2, 5);
        Due.is("tide 0", Due.on(HEAD + FENCE + "tide 0;").chance(100), 0);
        Due.is("without", Due.on(HEAD + FENCE).chance(100), 0);
        Due.is("tide 100", Due.on(HEAD + FENCE + "tide 100;").chance(100), 100);
        Due.is("the last is 0", Due.on(HEAD + "tide 100;" + FENCE + "tide 0;").chance(100), 0);
        Due.is("the last is 100", Due.on(HEAD + "tide 0;tide 5;" + FENCE + "tide 100;").chance(100), 100);
    }

    private static void digits() {
        Due.about("terms I: N (1 to 4 digits), FAULT 1 of a 5th digit at itself");
        Due.is("leading zeros", Due.right("slope 0002 by 0004;steep 0001 0009;iron 0000 0003;fence f row 0003 age 0099;"
                + "stake f 0001 row 0000;walks 0005;roots 0001=0002;tide 0100;", 8).walks(0, 0), 5);
        String[] ahead = {"steep ", "steep 0 ", "iron ", "iron 0 ", "fence f row ", "fence f row 0 age ", "tide ", "walks ",
            "walks 1+", "roots ", "roots 1<", "roots [(min(1,", FENCE + "stake f ", FENCE + "stake f 0 row "};
        String[] five = {"00000", "00001", "12345", "99999", "123456", "000000000"};
        for (String number : five) {
            Due.fault("slope " + number + " by 8;", 1, 10);
            Due.fault("slope 3 by " + number + ";", 1, 15);
            for (String text : ahead) {
                behind(text + number + ";", 1, text.length() + 4);
            }
        }
        Due.is("9999", Due.right(HEAD + FENCE + "walks 9999-9997;", 3).walks(0, 0), 2);
    }

    private static void namesOfLetters() {
        Due.about("terms I: NAMES: 1 to 6 letters, FAULT 1 of a 7th letter at itself");
        for (int n = 1; n <= 9; n++) {
            String name = "zyxabcdef".substring(0, n);
            rightIf(n <= 6, "fence " + name + " row 0 age 0;", 1, 12);
            String stakes = "fence zyxabc row 0 age 0;stake " + name + " 0 row 0;";
            if (n == 6) {
                Due.right(HEAD + stakes, 3);
            } else {
                behind(stakes, n < 6 ? 3 : 1, n < 6 ? 31 : 37);
            }
        }
        behind("fence slopeslope row", 1, 12);
        behind("fence aaaaaaa", 1, 12);
        behind("fence aaaaaa", 1, 12);
        behind("fence aaaaaa7", 1, 12);
    }

    private static void ownWords() {
        Due.about("terms I: NAMES: no OWN WORD, FAULT 1 at its first byte");
        for (String word : OWN_WORDS) {
            behind("fence " + word + " row 0 age 0;", 1, 6);
            behind(FENCE + "stake  " + word + " 0 row 0;", 1, 27);
            if (word.length() < 6) {
                Due.right(HEAD + "fence " + word + "q row 0 age 0;stake " + word + "q 0 row 0;", 3);
            }
            Due.right(HEAD + "fence " + word.substring(0, word.length() - 1) + " row 0 age 0;", 2);
        }
        for (String word : OTHER_WORDS) {
            Due.right(HEAD + "fence " + word + " row 0 age 0;stake " + word + " 0 row 0;", 3);
        }
    }

    private static void unlikeNames() {
        Due.about("terms I: FAULT 3, a NAME to be given that is there already, one that is none, at it");
        behind("fence a row 0 age 0; fence  a row 0 age 0;", 3, 28);
        behind(fences(5) + "fence e row 0 age 0;", 3, 106);
        behind("fence abcdef row 0 age 0;fence abcdef row 0 age 0;", 3, 31);
        WalkFence x = Due.right(HEAD + "fence abcdef row 0 age 0;fence abcde row 0 age 0;fence abcdeg row 0 age 0;"
                + "fence bbcdef row 0 age 0;stake abcde 1 row 5;", 6);
        Due.is("of unlike NAMES", x.stake(1, 1), 5);
        behind("stake a 0 row 0;fence a row 0 age 0;", 3, 6);
        behind("fence a row 0 age 0;stake b 0 row 0;", 3, 26);
        behind("fence ab row 0 age 0;stake a 0 row 0;", 3, 27);
        behind("fence a row 0 age 0;stake   aa 0 row 0;", 3, 28);
    }

    private static void blanks() {
        Due.about("terms I: blanks (10, 32) are where one likes");
        String apart = "slope|3|by|8|;|steep|0|1|;|iron|0|0|;|fence|f|row|0|age|0|;|stake|f|0|row|0|;|walks|(|1|+|min|(|2|,"
                + "|3|)|)|;|roots|[|not|1|<|2|]|or|all|;|tide|1|;";
        Due.right(apart.replace('|', ' '), 8);
        Due.right(apart.replace('|', '\n'), 8);
        Due.right("\n \n" + apart.replace("|", " \n\n  ") + "  \n", 8);
        Due.right("slope 3 by 8;steep 0 1;iron 0 0;fence f row 0 age 0;stake f 0 row 0;walks(1+min(2,3));"
                + "roots[not 1<2]or all;tide 1;", 8);
        char[] others = {0, 1, 8, 9, 11, 12, 13, 31, 33, 127, 133, 160, 255};
        for (char other : others) {
            Due.fault("slope" + other + "3 by 8;", 1, 5);
            Due.fault(other + HEAD, 1, 0);
            behind("" + other, 1, 0);
            behind("fence f" + other + "row 0 age 0;", 1, 7);
        }
    }

    private static boolean among(int b, String signs) {
        return signs.indexOf((char) b) >= 0;
    }

    private static void everyByte() {
        Due.about("terms I: FAULT 1, the first byte with which no such text goes on");
        for (int b = 0; b < 256; b++) {
            char sign = (char) b;
            boolean blank = b == 10 || b == 32;
            boolean letter = b >= 'a' && b <= 'z';
            boolean digit = b >= '0' && b <= '9';
            rightIf(blank, "" + sign, 1, 0);
            Due.fault("slope " + sign, digit && !among(b, "123456") ? 2 : 1, blank || among(b, "123456") ? 7 : 6);
            behind("fence " + sign, 1, blank || letter ? 7 : 6);
            behind("fence f" + sign, 1, blank || letter ? 8 : 7);
            behind("roots 1" + sign, 1, blank || digit || among(b, "<>=+-*/") ? 8 : 7);
            rightIf(b == ';', "roots 1<2" + sign, 1, blank || digit || among(b, "+-*/") ? 10 : 9);
            behind("walks " + sign, 1, blank || digit || among(b, "(") ? 7 : 6);
            behind("roots " + sign, 1, blank || digit || among(b, "([") ? 7 : 6);
            behind("walks (1" + sign, 1, blank || digit || among(b, "+-*/)") ? 9 : 8);
            behind("walks max(1" + sign, 1, blank || digit || among(b, "+-*/,") ? 12 : 11);
            behind("walks max(1,2" + sign, 1, blank || digit || among(b, "+-*/)") ? 14 : 13);
            behind("roots [all" + sign, 1, blank || among(b, "]") ? 11 : letter ? 7 : 10);
            rightIf(b == ';', "tide 9" + sign, 1, blank || digit ? 7 : 6);
        }
    }

    private static void sideBySide() {
        Due.about("terms I: words and numbers side by side need a blank");
        Due.fault("slope3 by 8;", 1, 5);
        Due.fault("slope 3by 8;", 1, 7);
        Due.fault("slope 3 by8;", 1, 10);
        behind("steep0 1;", 1, 5);
        behind("iron0 1;", 1, 4);
        behind("fencef row 0 age 0;", 1, 0);
        behind("fence frow 0 age 0;", 1, 11);
        behind("fence f row0 age 0;", 1, 11);
        behind("fence f row 0age 0;", 1, 13);
        behind("fence f row 0 age0;", 1, 17);
        behind("fence f0 row 0 age 0;", 1, 7);
        behind(FENCE + "stakef 0 row 0;", 1, 20);
        behind(FENCE + "stake f0 row 0;", 1, 27);
        behind(FENCE + "stake f 0row 0;", 1, 29);
        behind("tide5;", 1, 4);
        behind("walks1;", 1, 5);
        behind("walksage;", 1, 0);
        behind("rootsall;", 1, 0);
        behind("roots 1<2or all;", 1, 9);
        behind("roots all or2<3;", 1, 12);
        behind("roots all orall;", 1, 10);
        behind("roots notall;", 1, 6);
        behind("roots not1<2;", 1, 9);
        behind("walks 2min(1,2);", 1, 7);
        Due.right(HEAD + "walks(age)+min(1,2)*age/2-row;roots[all]and[all]or not[1<age]and(2)>1;", 3);
    }

    private static void endsTooSoon() {
        Due.about("terms I: FAULT 1 at the text's length, if it ends too soon");
        String[] words = ("slope 3 by 8 ; steep 0 1 ; iron 0 0 ; fence f row 0 age 0 ; stake f 0 row 0 ; walks ( 1 + min ( age , 3 "
                + ") - 2 * row / 7 ) ; roots [ not 1 < 2 and all ] or left > 1 and age = 4 ; tide 1 ;").split(" ");
        StringBuilder text = new StringBuilder();
        int statements = 0;
        for (String word : words) {
            text.append(word);
            boolean whole = word.equals(";");
            statements += whole ? 1 : 0;
            for (String blank : new String[] {"", " ", "\n\n "}) {
                String cut = text + blank;
                if (whole) {
                    Due.right(cut, statements);
                } else {
                    Due.fault(cut, 1, cut.length());
                }
            }
            text.append(' ');
        }
    }

    private static void firstAlongTheText() {
        Due.about("terms I: FAULTS, the first along the text");
        Due.fault("slope 9 by x", 2, 6);
        Due.fault("slope 1 bx 99;", 1, 8);
        Due.fault("slope 0 by 3;", 2, 6);
        Due.fault("slope 3 by 3 )", 2, 11);
        behind("steep 9 99;", 2, 6);
        behind("iron 3 9;", 2, 5);
        behind("iron 0 0;iron 0 0)", 2, 16);
        behind("stake x 9 row 99;", 3, 6);
        behind("tide 101;stake x 0 row 0;", 2, 5);
        behind("stake x 0 row 0;tide 101;", 3, 6);
        behind("fence abcdefg row 99 age 0;", 1, 12);
        behind("fence f row 99 age 100;", 2, 12);
        behind("walks (((((((1;tide 101;", 4, 12);
        behind("tide 101;walks (((((((1;", 2, 5);
        behind("walks 1;walks (((((((1;", 5, 8);
        behind("walks (((((( ) (", 1, 13);
        behind("walks 1 tide 101;", 1, 8);
    }

    private static boolean in(String word, String words) {
        return (" " + words + " ").contains(" " + word + " ");
    }

    private static void partsOfWalksAndRoots() {
        Due.about("terms I: PART: age, steep, year; in walks row; in roots left");
        for (String word : OWN_WORDS) {
            int end = 6 + word.length();
            boolean pair = in(word, "min max");
            rightIf(in(word, "age steep year row"), "walks " + word + ";", 1, pair ? end : 6);
            rightIf(in(word, "age steep year row"), "walks " + word + "+1;", 1, pair ? end : 6);
            rightIf(in(word, "age steep year left"), "roots " + word + "=1;", 1, pair || in(word, "all not") ? end : 6);
            rightIf(in(word, "age steep year left"), "roots 1=" + word + ";", 1, pair ? end + 2 : 8);
        }
        for (String word : OTHER_WORDS) {
            behind("walks " + word + ";", 1, 6);
            behind("roots " + word + "=1;", 1, 6);
        }
        behind(FENCE + "walks f;", 1, 26);
        behind(FENCE + "roots f=1;", 1, 26);
        rightIf(true, "roots all;", 0, 0);
        behind("walks all;", 1, 6);
        behind("walks not 1;", 1, 6);
        behind("walks [1];", 1, 6);
    }

    private static void slopeBehindQuestion() {
        Due.about("terms I: what is PART of a QUESTION is none of a SLOPE, also behind a QUESTION");
        String[] lines = {"walks row 1;", "walks below 1;", "walks number;", "walks left;", "roots row 1<2;", "roots below 1<2;",
            "roots field<2;", "roots row<2;"};
        int[] at = {10, 6, 6, 6, 6, 6, 6, 6};
        WalkFence x = Due.on(HEAD + FENCE + "walks row;roots left<1;");
        for (int k = 0; k < lines.length; k++) {
            Due.answers(x, "total row 1+below 0", 0);
            Due.is("slope() with " + lines[k], Due.slope(x, HEAD + lines[k]), NONE);
            Due.is("fault(0) with " + lines[k], x.fault(0), 1);
            Due.is("fault(1) with " + lines[k], x.fault(1), 13 + at[k]);
        }
        Due.is("walks row", Due.slope(x, HEAD + FENCE + "roots left<1;walks row+2;"), 4);
        Due.is("by its row", x.walks(0, 0), 2);
        Due.askFault(x, "total steep", 1, 6);
        Due.askFault(x, "total row", 1, 9);
    }

    private static void sixOpen() {
        Due.about("terms I: FAULT 4, the 7th of ( [ not that is open at once, at it");
        for (int nots = 0; nots <= 7; nots++) {
            for (int squares = 0; nots + squares <= 7; squares++) {
                String ahead = "roots " + Due.many(nots, "not ") + Due.many(squares, "[");
                int six = 6 - nots - squares;
                if (six >= 0) {
                    Due.right(HEAD + ahead + Due.many(six, "(") + "1" + Due.many(six, ")") + "<2" + Due.many(squares, "]") + ";", 2);
                    Due.right(HEAD + ahead + "1<" + Due.many(six, "(") + "2" + Due.many(six, ")") + Due.many(squares, "]") + ";", 2);
                    behind(ahead + Due.many(six + 1, "(") + "1", 4, ahead.length() + six);
                    behind(ahead + Due.many(six + 2, "(") + "1", 4, ahead.length() + six);
                    behind(ahead + "1<" + Due.many(six + 1, "(") + "2", 4, ahead.length() + 2 + six);
                } else {
                    behind(ahead + "all", 4, ahead.length() - (squares > 0 ? 1 : 4));
                }
            }
        }
        for (int n = 1; n <= 9; n++) {
            rightIf(n <= 6, "walks " + Due.many(n, "(") + "1" + Due.many(n, ")") + ";", 4, 12);
            rightIf(n <= 6, "roots " + Due.many(n, "[") + "all" + Due.many(n, "]") + ";", 4, 12);
            rightIf(n <= 6, "roots " + Due.many(n, "not ") + "all;", 4, 30);
            rightIf(n <= 6, "roots " + Due.many(n, "not\n") + "1=1;", 4, 30);
        }
        behind("roots [[not [[[ not", 4, 16);
        Due.right(HEAD + "walks " + Due.many(20, "(1)+") + "((((((1))))))+((((((1))))));", 2);
        Due.right(HEAD + "roots " + Due.many(20, "[all] and ") + "[[[[[[all]]]]]] or [[[[[[all]]]]]];", 2);
        behind("walks ((((((1))))))+(((((((1", 4, 26);
    }

    private static void openByMinAndMax() {
        Due.about("terms I: FAULT 4, the ( of min and max is one that is open");
        for (int n = 1; n <= 8; n++) {
            rightIf(n <= 6, "walks " + Due.many(n, "min(") + "1" + Due.many(n, ",2)") + ";", 4, 33);
            rightIf(n <= 6, "walks " + Due.many(n, "max(1,") + "1" + Due.many(n, ")") + ";", 4, 45);
        }
        behind("walks ((((((min (1,2", 4, 16);
        behind("walks min(1,(((((((", 4, 17);
        Due.right(HEAD + "walks min((((((1))))),(((((2))))))+((((((3))))));", 2);
    }

    private static void notUntilItsFactEnds() {
        Due.about("terms I: FAULT 4, a not is open until its FACT ends");
        String six = Due.many(6, "not ");
        Due.right(HEAD + "roots " + six + "all and " + six + "all or " + six + "1<2 and ((((((1))))))<2;", 2);
        Due.right(HEAD + "roots not [not all and not all and not [[[all]]] or not not not not all];", 2);
        behind("roots " + six + "1<(2)", 4, 32);
        behind("roots " + six + "(2)<1", 4, 30);
        behind("roots " + six + "1+min(2,3)<1", 4, 35);
        behind("roots all or " + six + "[all]", 4, 37);
        behind("roots not [not all and not not not not not all]", 4, 39);
    }

    /** What a stake of age 5 in row 2, YEAR 0, steep 1 would walk. */
    private static void walksBy(String sum, int due) {
        Due.is(sum, Due.on("slope 1 by 30;fence f row 2 age 5;walks " + sum + ";").walks(0, 0), due);
    }

    private static void rootsBy(String test, boolean due) {
        WalkFence x = Due.on("slope 1 by 30;fence f row 2 age 5;roots " + test + ";");
        x.years(1);
        Due.is(test, x.fence(0, 0) == 0, due);
    }

    private static void sumsAreBounded() {
        Due.about("terms I: each sum, difference, product above 10 to the 6 is that, below -10 to the 6 likewise");
        walksBy("1000*1000-(999*1000+995)", 5);
        walksBy("1000*1000+5-(1000*1000-3)", 3);
        walksBy("1000*1000+1-(1000*1000-3)", 3);
        walksBy("1000*1000-(0-5)-(1000*1000-3)", 3);
        walksBy("1001*1000-(1000*1000-3)", 3);
        walksBy("9999*9999-(1000*1000-3)", 3);
        walksBy("1000*1000*(1000*1000)-(1000*1000-3)", 3);
        walksBy("0-1000*1000+999*1000+999+4", 3);
        walksBy("0-1000*1000-5+1000*1000+3", 3);
        walksBy("0-1000*1000-1+1000*1000+3", 3);
        walksBy("(0-1000*1000)+(0-5)+1000*1000+3", 3);
        walksBy("(0-1001)*1000+1000*1000+3", 3);
        walksBy("1000*1000*(0-1000*1000)+1000*1000+3", 3);
        walksBy("(0-1000*1000)*(0-1000*1000)-(1000*1000-3)", 3);
        walksBy("min(9999*9999,1000*1000)-(1000*1000-3)", 3);
        rootsBy("9999*9999=1000*1000", true);
        rootsBy("1000*1000+1>1000*1000", false);
        rootsBy("0-1000*1000-1<0-1000*1000", false);
        rootsBy("999*1000+999<1000*1000", true);
    }

    private static void quotients() {
        Due.about("terms I: / gives the greatest whole number not above, by 0 it gives 0");
        walksBy("7/2", 3);
        walksBy("8/2", 4);
        walksBy("9+(0-7)/2", 5);
        walksBy("9+(0-8)/2", 5);
        walksBy("9+7/(0-2)", 5);
        walksBy("(0-7)/(0-2)", 3);
        walksBy("9+(0-1)/9999", 8);
        walksBy("9+1/9999", 9);
        walksBy("4+5/0", 4);
        walksBy("4+(0-5)/0", 4);
        walksBy("4+0/0", 4);
        walksBy("4+5/(row-2)", 4);
        walksBy("4+0/(0-5)", 4);
        walksBy("1000*1000/(0-1000*1000)+5", 4);
        walksBy("8/2/2*3", 6);
        walksBy("2*7/2", 7);
        rootsBy("age/0=0", true);
        rootsBy("(0-age)/4=0-2", true);
    }

    private static void faultEdges() {
        Due.about("promise 5: 0 without, and ahead of any; NONE without; NONE for another what");
        WalkFence x = new WalkFence();
        int[] others = {Integer.MIN_VALUE, -2, -1, 2, 3, Integer.MAX_VALUE};
        for (int round = 0; round < 3; round++) {
            for (int other : others) {
                Due.is("fault(" + other + ")", x.fault(other), NONE);
            }
            Due.is("fault(0)", x.fault(0), round == 1 ? 2 : 0);
            Due.is("fault(1)", x.fault(1), round == 1 ? 6 : NONE);
            Due.slope(x, round == 0 ? "slope 0" : HEAD);
        }
        Due.askFault(x, "first", 1, 5);
        Due.answers(x, "first all", NONE);
        Due.askFault(x, "total (((((((1", 4, 12);
        Due.is("see() tells none", Due.sees(x, 1), NONE);
        Due.is("of the latest ask()", x.fault(0), 4);
        Due.is("its place", x.fault(1), 12);
        Due.slope(x, "slope 1 by 4;;");
        Due.is("of the latest slope()", x.fault(0), 1);
        Due.is("its place", x.fault(1), 13);
    }

    private static void letterEdges() {
        Due.about("promise 7: letter k (0 .. 5), 0 behind it, NONE when there is none such");
        int[] odd = {Integer.MIN_VALUE, -1, 6, 7, Integer.MAX_VALUE};
        WalkFence x = Due.on(HEAD + "fence abcxyz row 0 age 0;fence q row 0 age 0;");
        int[] due = {1, 2, 3, 24, 25, 26};
        for (int k = 0; k < 6; k++) {
            Due.is("letter(0, " + k + ")", x.letter(0, k), due[k]);
            Due.is("letter(1, " + k + ")", x.letter(1, k), k == 0 ? 17 : 0);
            Due.is("letter(2, " + k + ")", x.letter(2, k), NONE);
            Due.is("without a slope", new WalkFence().letter(0, k), NONE);
        }
        for (int k : odd) {
            Due.is("letter(0, " + k + ")", x.letter(0, k), NONE);
            Due.is("letter(" + k + ", 0)", x.letter(k, 0), NONE);
        }
        WalkFence full = Due.on(HEAD + fences(6));
        Due.is("the 6th", full.letter(5, 0), 6);
        Due.is("a 7th", full.letter(6, 0), NONE);
    }
}
