/** The edges that the document names for QUESTIONS: promise 30, terms IV. */
final class QuestionEdgesTest {
    private static final int NONE = WalkFence.NONE;
    private static final long NOTHING = WalkFence.NOTHING;
    private static final String[] WORDS = {"slope", "by", "steep", "iron", "fence", "row", "age", "stake", "walks",
        "roots", "tide", "year", "left", "number", "field", "cut", "first", "below", "or", "and", "not", "all", "min",
        "max", "last", "often", "total", "most", "least", "f", "abcdefg"};
    private static final String TWO = "slope 3 by 8;fence f row 1 age 3;fence g row 1 age 7;stake g 0 row 5;stake g 2 row 0;";

    private QuestionEdgesTest() {
    }

    public static void main(String[] args) {
        kindsOfQuestions();
        withoutFences();
        holdsForNone();
        withoutASlope();
        rowOfAColumn();
        belowAFence();
        partsOfAFence();
        wordsThatArePart();
        sumsAreBounded();
        quotients();
        signsAndTests();
        endsTooSoon();
        everyByte();
        behindIt();
        digits();
        sixOpen();
        rowAndBelowUntilTheirPartEnds();
        longest();
        leavesAllAsItWas();
        Due.end();
    }

    private static void fault(String text, int kind, int at) {
        Due.askFault(Due.on(TWO), text, kind, at);
    }

    private static void answers(String text, long due) {
        Due.answers(Due.on(TWO), text, due);
    }

    private static boolean in(String word, String words) {
        return (" " + words + " ").contains(" " + word + " ");
    }

    private static void kindsOfQuestions() {
        Due.about("terms IV: first, last, often TEST; total, most, least SUM");
        for (String word : WORDS) {
            boolean test = in(word, "first last often");
            boolean sum = in(word, "total most least");
            if (test) {
                answers(word + " all", word.equals("often") ? 2 : word.equals("last") ? 1 : 0);
                fault(word + " 1", 1, word.length() + 2);
            } else if (sum) {
                answers(word + " number", word.equals("least") ? 0 : 1);
                fault(word + " all", 1, word.length() + 1);
                fault(word + " 1<2", 1, word.length() + 2);
            } else {
                fault(word + " all", 1, 0);
                fault("  " + word + " 1", 1, 2);
            }
        }
        fault("firsts all", 1, 0);
        fault("firs all", 1, 0);
        fault("First all", 1, 0);
        fault("1 first all", 1, 0);
    }

    private static void withoutFences() {
        Due.about("promise 30, terms IV: without FENCES 0 of often, total, most, least; NONE of first, last");
        String[] questions = {"often all", "often not all", "total 5", "most 5", "most 0-5", "least 5", "least 0-5",
            "total row 0", "total below 0"};
        WalkFence x = Due.on("slope 3 by 8;");
        for (String question : questions) {
            Due.answers(x, question, 0);
        }
        Due.answers(x, "first all", NONE);
        Due.answers(x, "last all", NONE);
    }

    private static void holdsForNone() {
        Due.about("promise 30: NONE of first, last, when its TEST holds for none");
        String[] never = {"not all", "age<3", "age>7", "age=4", "number>1", "number<0", "year>0", "cut=1", "left<3"};
        for (String test : never) {
            answers("first " + test, NONE);
            answers("last " + test, NONE);
            answers("often " + test, 0);
        }
        answers("first age>3", 1);
        answers("last age<7", 0);
        answers("first age>2", 0);
        answers("last age>2", 1);
        StringBuilder six = new StringBuilder("slope 1 by 4;");
        for (int f = 0; f < 6; f++) {
            six.append("fence ").append((char) ('a' + f)).append(" row 0 age ").append(f).append(';');
        }
        WalkFence x = Due.on(six.toString());
        Due.answers(x, "first age=5", 5);
        Due.answers(x, "last age=5", 5);
        Due.answers(x, "first age=0", 0);
        Due.answers(x, "last age=0", 0);
        Due.answers(x, "often age<9", 6);
        Due.answers(x, "total number", 15);
        Due.answers(x, "most number", 5);
        Due.answers(x, "least 0-number", -5);
        Due.answers(x, "most 0-number", 0);
    }

    private static void withoutASlope() {
        Due.about("promise 30: NOTHING, doing nothing else, without a slope");
        WalkFence x = new WalkFence();
        String[] texts = {"often all", "total 1", "", "x", "total (((((((1"};
        for (String text : texts) {
            Due.is("ask() of " + text, Due.ask(x, text), NOTHING);
            Due.is("no FAULT", x.fault(0), 0);
            Due.is("no place", x.fault(1), NONE);
        }
        Due.slope(x, "slope 7");
        Due.is("ask() still without", Due.ask(x, "total"), NOTHING);
        Due.is("the FAULT of slope() stays", x.fault(0), 2);
        Due.is("its place stays", x.fault(1), 6);
        for (int what = 0; what < 6; what++) {
            Due.is("status(" + what + ")", x.status(what), what == 1 ? 1 : 0);
        }
    }

    private static void rowOfAColumn() {
        Due.about("terms IV: the row of its stake in the column of that number, -1 if it is GONE, or there is none such");
        WalkFence x = Due.on(TWO);
        int[] due = {1 + 5, 1 + 1, 1 + 0};
        for (int c = 0; c < 12; c++) {
            Due.answers(x, "total row " + c, c < 3 ? due[c] : -2);
        }
        String[] none = {"row 9999", "row (1000*1000)", "row (0-1)", "row(0-1000*1000)", "row row 3", "row(row 9)"};
        for (String part : none) {
            Due.answers(x, "least " + part, -1);
            Due.answers(x, "most " + part, -1);
        }
        Due.answers(x, "total row row 2", 1 + 5);
        Due.answers(x, "total row number", 1 + 1);
        Due.answers(x, "total row row row 1", 1 + 1);
        WalkFence gone = Due.on("slope 2 by 4;steep 1 0;fence f row 3 age 0;");
        gone.years(1);
        Due.answers(gone, "total row 0", -1);
        Due.answers(gone, "total row 1", 3);
        WalkFence six = Due.on("slope 6 by 30;fence f row 0 age 0;stake f 5 row 29;");
        Due.answers(six, "total row 5", 29);
        Due.answers(six, "total row 6", -1);
    }

    private static void belowAFence() {
        Due.about("terms IV: in how many columns it lies BELOW the FENCE of that number, 0 of those that there are not");
        WalkFence x = Due.on(TWO);
        Due.answers(x, "total below 0*10+below 1", 11);
        for (int f = 2; f < 12; f++) {
            Due.answers(x, "total below " + f, 0);
        }
        String[] none = {"below 9999", "below (1000*1000)", "below (0-1)", "below(0-1000*1000)", "below number"};
        for (String part : none) {
            Due.answers(x, "least " + part, 0);
            Due.answers(x, "most " + part, 0);
        }
        Due.answers(x, "total below below 1", 1 + 1);
        x.years(3);
        Due.is("one is GONE", x.stake(1, 0), NONE);
        Due.answers(x, "most below 0", 0);
        Due.answers(x, "most below 1", 1);
    }

    private static void partsOfAFence() {
        Due.about("terms IV: number; age; left; field; cut; year, of all FENCES");
        WalkFence x = Due.onYear("slope 2 by 30;fence f row 29 age 99;fence g row 0 age 0;walks 9;", 998);
        Due.answers(x, "total year", 1996);
        Due.answers(x, "most age", 99);
        Due.answers(x, "least field", 2);
        Due.answers(x, "most field", 58);
        x.cut(1);
        Due.answers(x, "first cut=1", 1);
        Due.answers(x, "total cut", 1);
        x.years(1);
        Due.answers(x, "total year", 1998);
        Due.answers(x, "most age", 99);
        Due.answers(x, "first left=0", 0);
        Due.answers(x, "last left=0", 0);
        Due.answers(x, "least field", 0);
        Due.answers(x, "most field", 60);
        Due.answers(x, "total cut", 0);
    }

    private static void wordsThatArePart() {
        Due.about("terms IV: PART; FAULT 1, an unknown word at its first byte");
        for (String word : WORDS) {
            int end = 6 + word.length();
            if (in(word, "number age left field cut year")) {
                Due.is("total " + word, Due.ask(Due.on(TWO), "total " + word) != NOTHING, true);
                Due.is("often " + word + ">0", Due.ask(Due.on(TWO), "often " + word + ">0") != NOTHING, true);
            } else if (in(word, "row below min max")) {
                fault("total " + word, 1, end);
                fault("total " + word + "+1", 1, end);
                fault("often " + word + ">0", 1, end);
            } else {
                fault("total " + word, 1, 6);
                fault("total 1+" + word, 1, 8);
                fault("often 1<" + word, 1, 8);
                fault("total row " + word, 1, 10);
                fault("total below " + word, 1, 12);
                fault("total min(" + word, 1, 10);
            }
        }
        fault("often all and steep>0", 1, 14);
        fault("often not total", 1, 10);
    }

    private static void sumsAreBounded() {
        Due.about("terms I, IV: each sum, difference, product above 10 to the 6 is that, below -10 to the 6 likewise");
        answers("most 1000*1000", 1000000);
        answers("most 999*1000+999", 999999);
        answers("most 1000*1000+1", 1000000);
        answers("most 1001*1000", 1000000);
        answers("most 1000*1000-(0-1)", 1000000);
        answers("most 1000*1000+1-1", 999999);
        answers("most 1000*1000*(1000*1000)", 1000000);
        answers("least 0-1000*1000", -1000000);
        answers("least 0-1000*1000-1", -1000000);
        answers("least (0-1001)*1000", -1000000);
        answers("least 0-1000*1000-1+1", -999999);
        answers("least 0-1000*1000+(0-1)+1", -999999);
        answers("least 1000*1000*(0-1000*1000)", -1000000);
        answers("least (0-1000*1000)*(0-1000*1000)", 1000000);
        answers("total 1000*1000", 2000000);
        answers("total 0-1000*1000", -2000000);
    }

    private static void quotients() {
        Due.about("terms I, IV: / gives the greatest whole number not above, by 0 it gives 0; all from the left on");
        answers("most 7/2", 3);
        answers("most (0-7)/2", -4);
        answers("most 7/(0-2)", -4);
        answers("most (0-7)/(0-2)", 3);
        answers("most (0-6)/2", -3);
        answers("most (0-1)/9999", -1);
        answers("most 1/9999", 0);
        answers("most 5/0", 0);
        answers("most (0-5)/0", 0);
        answers("most 0/0", 0);
        answers("most 5/cut", 0);
        answers("most 1000*1000/(0-1)", -1000000);
        answers("most 9-3-2", 4);
        answers("most 9-3+2", 8);
        answers("most 64/4/2", 8);
        answers("most 7/2*2", 6);
        answers("most 2+3*4-6/4", 13);
    }

    private static void signsAndTests() {
        Due.about("terms I, IV: SIGN < or > or =; BOTH, FACT, not, [ ], all");
        for (int n = 0; n < 3; n++) {
            answers("often " + n + "<1", n < 1 ? 2 : 0);
            answers("often " + n + ">1", n > 1 ? 2 : 0);
            answers("often " + n + "=1", n == 1 ? 2 : 0);
            answers("often not " + n + "=1", n != 1 ? 2 : 0);
        }
        answers("often all or all and not all", 2);
        answers("often [all or all] and not all", 0);
        answers("often not all or all", 2);
        answers("often not [all or all]", 0);
        answers("often age=3 or age=7", 2);
        answers("often age=3 and age=7", 0);
        answers("most min(age,5)", 5);
        answers("least max(age,5)", 5);
        answers("most min(0-1,0-2)", -2);
        answers("most max(0-1,0-2)", -1);
    }

    private static void endsTooSoon() {
        Due.about("terms IV: FAULT 1 at the text's length, if it ends too soon");
        String[] sum = "total ( 1 + min ( row 1 , below ( 0 ) ) - age * 2 / number )".split(" ");
        String[] test = "often [ not 1 < 2 and all ] or not not row number > 1 and [ all ]".split(" ");
        cut(sum, new boolean[sum.length]);
        boolean[] whole = new boolean[test.length];
        for (int k = 0; k < test.length; k++) {
            // Behind the first ], and behind the number of the last SUM a TEST is whole.
            whole[k] = k == 8 || k == 15;
        }
        cut(test, whole);
        Due.askFault(Due.on(TWO), "", 1, 0);
        Due.askFault(Due.on(TWO), " \n ", 1, 3);
    }

    /** Each of these texts, cut behind each word, is whole there or ends too soon; the last one is whole. */
    private static void cut(String[] words, boolean[] whole) {
        StringBuilder text = new StringBuilder();
        for (int k = 0; k < words.length; k++) {
            text.append(words[k]);
            for (String blank : new String[] {"", " ", "\n\n "}) {
                String cut = text + blank;
                if (whole[k] || k == words.length - 1) {
                    Due.is("ask() of " + cut, Due.ask(Due.on(TWO), cut) != NOTHING, true);
                } else {
                    fault(cut, 1, cut.length());
                }
            }
            text.append(' ');
        }
    }

    private static boolean among(int b, String signs) {
        return signs.indexOf((char) b) >= 0;
    }

    private static void everyByte() {
        Due.about("terms IV: FAULT 1, the first byte with which no such text goes on");
        for (int b = 0; b < 256; b++) {
            char sign = (char) b;
            boolean blank = b == 10 || b == 32;
            boolean letter = b >= 'a' && b <= 'z';
            boolean digit = b >= '0' && b <= '9';
            fault("" + sign, 1, blank ? 1 : 0);
            fault("often " + sign, 1, blank || digit || among(b, "([") ? 7 : 6);
            fault("often 1" + sign, 1, blank || digit || among(b, "<>=+-*/") ? 8 : 7);
            fault("total all" + sign, 1, 6);
            if (digit) {
                answers("most " + sign, b - '0');
                answers("least row " + sign, b == '2' ? 0 : b < '2' ? 1 : -1);
            } else {
                fault("total " + sign, 1, blank || among(b, "(") ? 7 : 6);
                fault("total row " + sign, 1, blank || among(b, "(") ? 11 : 10);
            }
            if (blank) {
                answers("often all" + sign, 2);
            } else {
                fault("often all" + sign, 1, letter ? 6 : 9);
            }
        }
    }

    private static void behindIt() {
        Due.about("terms IV: FAULT 1, what stands behind it, too");
        fault("total 1;", 1, 7);
        fault("total 1 ;", 1, 8);
        fault("total 1 2", 1, 8);
        fault("total 1 age", 1, 8);
        fault("total 1)", 1, 7);
        fault("total (1))", 1, 9);
        fault("total 1 total 1", 1, 8);
        fault("total 1,2", 1, 7);
        fault("often all all", 1, 10);
        fault("often all]", 1, 9);
        fault("often 1<2<3", 1, 9);
        fault("often all or", 1, 12);
        fault("total row 1 1", 1, 12);
        fault("total 1 abcdefgh", 1, 8);
        answers("\n total\n1 \n", 2);
    }

    private static void digits() {
        Due.about("terms I, IV: N (1 to 4 digits), FAULT 1 of a 5th digit at itself");
        answers("most 9999", 9999);
        answers("most 0000", 0);
        answers("most 0001", 1);
        fault("most 00000", 1, 9);
        fault("most 12345", 1, 9);
        fault("most 123456789", 1, 9);
        fault("most row 00001", 1, 13);
        fault("often 1<99999", 1, 12);
        fault("most 1age", 1, 6);
        fault("most age1", 1, 8);
        fault("most1", 1, 4);
        fault("total row1", 1, 9);
    }

    private static void sixOpen() {
        Due.about("terms IV: FAULT 4, the 7th of ( [ not row below that is open at once, at it");
        String[] opens = {"(", "row ", "below ", "min(1,", "row\n"};
        String[] closes = {")", "", "", ")", ""};
        int[] at = {0, 0, 0, 3, 0};
        for (int k = 0; k < opens.length; k++) {
            for (int n = 1; n <= 8; n++) {
                String text = "total " + Due.many(n, opens[k]) + "1" + Due.many(n, closes[k]);
                if (n <= 6) {
                    Due.is("ask() of " + text, Due.ask(Due.on(TWO), text) != NOTHING, true);
                } else {
                    fault(text, 4, 6 + 6 * opens[k].length() + at[k]);
                }
            }
        }
        for (int nots = 0; nots <= 6; nots++) {
            for (int squares = 0; nots + squares <= 6; squares++) {
                for (int rows = 0; nots + squares + rows <= 6; rows++) {
                    int rounds = 6 - nots - squares - rows;
                    String ahead = "often " + Due.many(nots, "not ") + Due.many(squares, "[") + Due.many(rows, "row ")
                            + Due.many(rounds, "(");
                    String behind = Due.many(rounds, ")") + "<2" + Due.many(squares, "]");
                    Due.is("ask() of " + ahead, Due.ask(Due.on(TWO), ahead + "1" + behind) != NOTHING, true);
                    fault(ahead + "(1)" + behind, 4, ahead.length());
                    fault(ahead + "row 1" + behind, 4, ahead.length());
                    fault(ahead + "below 1" + behind, 4, ahead.length());
                    fault(ahead + "max(1,2)" + behind, 4, ahead.length() + 3);
                    if (rows + rounds == 0) {
                        fault(ahead + "not all" + behind, 4, ahead.length());
                        fault(ahead + "[all]" + behind, 4, ahead.length());
                    }
                }
            }
        }
    }

    private static void rowAndBelowUntilTheirPartEnds() {
        Due.about("terms IV: FAULT 4, not until its FACT, row, below until its PART ends");
        answers("most row row row row row row 0+row row row row row row 0", 2);
        answers("least " + Due.many(9, "below 0*") + "row (row 0)", -1);
        fault("most row row row row row row 0+row row row row row row row 0", 4, 55);
        fault("often row 1<row row row row row row row 0", 4, 36);
        fault("often not row 1<row row row row row row 0", 4, 36);
        fault("often not not not not not not row 1<2", 4, 30);
        String six = Due.many(6, "not ");
        Due.is("each FACT for itself", Due.ask(Due.on(TWO), "often " + six + "all and " + six + "all or row row row row row row 1<1")
                != NOTHING, true);
    }

    private static void longest() {
        Due.about("promises 2, 30: a QUESTION of 1600 bytes");
        String sum = "total 1" + Due.many(796, "+1");
        answers(sum + " ", 2 * 797);
        answers(Due.many(1591, " ") + "often all", 2);
        fault(sum + "+", 1, 1600);
        fault(sum + ";", 1, 1599);
        String test = "often all" + Due.many(198, " and all");
        answers(test, 2);
    }

    private static void leavesAllAsItWas() {
        Due.about("promise 30: a QUESTION changes nothing of the SLOPE");
        WalkFence x = Due.on(TWO + "walks 1+1;roots left<3;");
        x.cut(0);
        int[] ahead = Due.imageOf(x);
        Due.answers(x, "total field*row 1+below 0", Due.ask(x, "total field*row 1+below 0"));
        Due.askFault(x, "total (((((((", 4, 12);
        int[] behind = Due.imageOf(x);
        for (int k = 0; k < ahead.length; k++) {
            Due.is("octet(" + k + ")", behind[k], ahead[k]);
        }
        Due.is("walks", x.walks(1, 0), 2);
        Due.is("later", x.later(1, 2, 2), 0);
        Due.is("ACTS", x.has(10), 1);
        for (int what = 0; what < 6; what++) {
            Due.is("none is refused", x.status(what), 0);
        }
    }
}
