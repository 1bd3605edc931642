import java.io.IOException;

/** The boundary cases of the text of a BENCH and its FAULTS, and of promises 1 to 5: a test for each sentence. */
public final class BoundaryTextTest extends Checks {
    private static final String WORDS = "stock step times cash option recall call put digit spread either over once any "
        + "from out rebate in above below";
    private static final String FOUR = "option a call 1;option b call 1;option c call 1;option d call 1;";

    private static int told(String text, int what) {
        return of(text).count(what);
    }

    // ---- Terms: the text ----

    @Says("A BENCH is a text of at most 500 bytes")
    static void textOf500Bytes() {
        fine(blanks(484) + "option z put 12;", 1);
        fine("option z put 12;" + blanks(484), 1);
        fine(blanks(500), 0);
        faulty(blanks(485) + "option z put 12;", 1, 500);
        faulty("option z put 12;" + blanks(485), 1, 500);
        faulty(blanks(501), 1, 500);
    }

    @Says("500, if there are more, and nothing is read")
    static void nothingIsReadOfMore() {
        faulty("!" + blanks(500), 1, 500);
        faulty("step 0;" + blanks(494), 1, 500);
        faulty("cash 1;cash 1;" + blanks(526), 1, 500);
        faulty(blanks(505) + "!", 1, 500);
        faulty(blanks(540), 1, 500);
    }

    @Says("{ LINE ; }")
    static void noLineAtAll() {
        fine("", 0);
        fine(" ", 0);
        is(told("", 3), 100);
    }

    @Says("{ LINE ; }")
    static void eachLineHasItsEnd() {
        faulty("cash 1", 1, 6);
        faulty("cash 1;step 1", 1, 13);
        faulty("cash 1 step 1;", 1, 7);
        faulty(";", 1, 0);
        faulty("cash 1;;", 1, 7);
        faulty("cash 1; ;step 1;", 1, 8);
    }

    @Says("the price at first without any cash that comes, 0 to 999")
    static void stockPrice() {
        is(told("stock 0 5;", 3), 0);
        is(told("stock 999 5;", 3), 999);
        is(told("stock 999 5;cash 99;", 3), 999);
        faulty("stock 1000 5;", 1, 6);
        faulty("stock ;", 1, 6);
        faulty("stock x 5;", 1, 6);
    }

    @Says("WIDTH, 2 to 9")
    static void stockWidth() {
        is(told("stock 5 2;", 2), 2);
        is(told("stock 5 9;", 2), 9);
        faulty("stock 5 1;", 2, 8);
        faulty("stock 5 0;", 2, 8);
        faulty("stock 5 10;", 2, 8);
        faulty("stock 5 999;", 2, 8);
        faulty("stock 5;", 1, 7);
    }

    @Says("only as the first LINE")
    static void stockIsFirst() {
        is(told("  stock 7 5;cash 1;", 3), 7);
        faulty("stock 5 5;stock 5 5;", 1, 10);
        faulty("cash 1;stock 5 5;", 1, 7);
        faulty("option a call 1;stock 5 5;", 1, 16);
    }

    @Says("100 and 2 without")
    static void withoutStock() {
        is(told("", 3), 100);
        is(told("", 2), 2);
        is(of("step 1;").price(1, 1, 2), 101);
        // Nothing is left of a stock that was told ahead.
        OptionBench x = of("stock 5 5;");
        feed(x, "step 1;");
        is(x.bench(), 0);
        is(x.count(3), 100);
        is(x.count(2), 2);
    }

    @Says("FALL, 1 to WIDTH less 1")
    static void fallOfAStep() {
        fine("step 1;", 0);
        faulty("step 0;", 2, 5);
        faulty("step 2;", 2, 5);
        is(of("stock 50 9;step 8;").step(1, 0), 8);
        faulty("stock 50 9;step 9;", 2, 16);
        faulty("stock 50 9;step 0 times 2;", 2, 16);
        faulty("step ;", 1, 5);
    }

    @Says("M such STEPS, 1 to 12")
    static void timesFrom1To12() {
        is(told("step 1;", 0), 1);
        is(told("step 1 times 1;", 0), 1);
        is(told("step 1 times 12;", 0), 12);
        is(of("stock 50 4;step 3 times 2;").step(2, 0), 3);
        faulty("step 1 times 0;", 2, 13);
        faulty("step 1 times 13;", 2, 13);
        faulty("step 1 times 999;", 2, 13);
        faulty("step 1 times;", 1, 12);
        faulty("step 1 times 1000;", 1, 13);
    }

    @Says("as many as may still come")
    static void timesAsManyAsMayCome() {
        is(told("step 1;step 1 times 11;", 0), 12);
        faulty("step 1;step 1 times 12;", 2, 20);
        is(told("step 1 times 11;step 1 times 1;", 0), 12);
        faulty("step 1 times 11;step 1 times 2;", 2, 29);
        faulty("step 1 times 11;step 1 times 0;", 2, 29);
    }

    @Says("12 STEPS at most")
    static void twelveSteps() {
        is(told("step 1;".repeat(12), 0), 12);
        faulty("step 1;".repeat(13), 4, 84);
    }

    @Says("'cash' N (1 to 99;")
    static void cashFrom1To99() {
        is(told("cash 1;", 4), 1);
        is(told("cash 99;", 4), 99);
        faulty("cash 0;", 2, 5);
        faulty("cash 100;", 2, 5);
        faulty("cash 1000;", 1, 5);
        faulty("cash;", 1, 4);
    }

    @Says("once at each STEP that is come to, the start too")
    static void cashOnceAtEachStep() {
        OptionBench x = of("cash 1;step 1;cash 2;step 1 times 2;cash 3;");
        is(x.step(0, 1), 1);
        is(x.step(1, 1), 2);
        is(x.step(2, 1), 0);
        is(x.step(3, 1), 3);
        faulty("cash 1;cash 1;", 3, 7);
        faulty("step 1;cash 1;option a call 1;cash 2;", 3, 30);
        fine("step 1 times 12;cash 5;", 0);
        faulty("step 1 times 12;cash 5;cash 5;", 3, 23);
    }

    @Says("[ 'recall' N ] (1 to 99)")
    static void recallFrom1To99() {
        is(of("option a call 5 recall 1;").option(0, 9), 1);
        is(of("option a call 5 recall 99;").option(0, 9), 99);
        faulty("option a call 5 recall 0;", 2, 23);
        faulty("option a call 5 recall 100;", 2, 23);
        faulty("option a call 5 recall;", 1, 22);
        faulty("option a call 5 recall 5 recall 5;", 1, 25);
    }

    @Says("'over' NAME K (of an OPTION told ahead")
    static void overOneToldAhead() {
        fine("option a call 1;option b over a 1;option c over b 1;option d over a 1;", 4);
        faulty("option a over a 1;", 3, 14);
        faulty("option a over b 1;option b call 1;", 3, 14);
        faulty("option a call 1;option b over aa 1;", 3, 30);
        faulty("option a call 1;option b over 1;", 1, 30);
        faulty("option a call 1;option b over;", 1, 29);
        // A NAME of an earlier BENCH is not told ahead.
        OptionBench x = of("option a call 1;");
        feed(x, "option b over a 1;");
        is(x.bench(), -1014);
        is(x.fault(), 3);
    }

    @Says("K 0 to 999")
    static void strikeFrom0To999() {
        for (String kind : "call put digit spread either over".split(" ")) {
            String start = "option z call 1;option a " + kind + (kind.equals("over") ? " z " : " ");
            String behind = kind.equals("digit") ? " 1;" : kind.equals("spread") ? " 999;" : ";";
            is(of(start + "0" + behind).option(1, 1), 0);
            is(of(start + "998" + behind).option(1, 1), 998);
            faulty(start + "1000" + behind, 1, start.length());
            faulty(start + ";", 1, start.length());
            if (!kind.equals("spread")) {
                is(of(start + "999" + behind).option(1, 1), 999);
            }
        }
    }

    @Says("of spread the second one above the first")
    static void spreadSecondAboveFirst() {
        is(of("option a spread 0 1;").option(0, 2), 1);
        is(of("option a spread 998 999;").option(0, 2), 999);
        faulty("option a spread 5 5;", 2, 18);
        faulty("option a spread 5 4;", 2, 18);
        faulty("option a spread 0 0;", 2, 18);
        faulty("option a spread 999 999;", 2, 20);
        faulty("option a spread 5 1000;", 1, 18);
        faulty("option a spread 5;", 1, 17);
    }

    @Says("N 1 to 99).")
    static void digitFrom1To99() {
        is(of("option a digit 5 1;").option(0, 2), 1);
        is(of("option a digit 5 99;").option(0, 2), 99);
        faulty("option a digit 5 0;", 2, 17);
        faulty("option a digit 5 100;", 2, 17);
        faulty("option a digit 5;", 1, 16);
    }

    @Says("'from' T (0 to 12)")
    static void fromStep0To12() {
        is(of("step 1 times 12;option a call 5 from 0;").option(0, 3), 0);
        is(of("step 1 times 12;option a call 5 from 12;").option(0, 3), 12);
        fine("option a call 5 from 12;", 1);
        faulty("option a call 5 from 13;", 2, 21);
        faulty("option a call 5 from 999;", 2, 21);
        faulty("option a call 5 from;", 1, 20);
    }

    @Says("once without.")
    static void onceWithoutWhen() {
        is(of(LATTICE + "option a call 5;").option(0, 3), 2);
        is(of(LATTICE + "option a call 5 once;").option(0, 3), 2);
        is(of(LATTICE + "option a call 5 out above 3;").option(0, 3), 2);
        // Nothing is left of a WHEN that was told ahead.
        OptionBench x = of(LATTICE + "option a call 5 any;");
        feed(x, LATTICE + "option a call 5;");
        is(x.bench(), 1);
        is(x.option(0, 3), 2);
    }

    @Says("N 0 to 999; rebate 0 to 99")
    static void barrierFrom0To999() {
        for (String barrier : new String[] {"out above ", "out below ", "in above ", "in below "}) {
            String start = "option a call 5 " + barrier;
            is(of(start + "0;").option(0, 6), 0);
            is(of(start + "999;").option(0, 6), 999);
            faulty(start + "1000;", 1, start.length());
            faulty(start + ";", 1, start.length());
        }
    }

    @Says("rebate 0 to 99")
    static void rebateFrom0To99() {
        is(of("option a call 5 out above 3 rebate 0;").option(0, 7), 0);
        is(of("option a call 5 out above 3 rebate 99;").option(0, 7), 99);
        faulty("option a call 5 out above 3 rebate 100;", 2, 35);
        faulty("option a call 5 out above 3 rebate;", 1, 34);
    }

    @Says("'out' SIDE N [ 'rebate' N ] | 'in' SIDE N")
    static void rebateOfOutAlone() {
        faulty("option a call 5 in above 3 rebate 2;", 1, 27);
        faulty("option a call 5 rebate 2;", 1, 16);
        faulty("option a call 5 out rebate 2;", 1, 20);
    }

    @Says("SIDE: 'above' | 'below'")
    static void sideIsTold() {
        faulty("option a call 5 out 3;", 1, 20);
        faulty("option a call 5 in;", 1, 18);
        faulty("option a call 5 in any 3;", 1, 19);
        faulty("option a call 5 out above below 3;", 1, 26);
    }

    @Says("'option' NAME KIND [ WHEN ] [ BARRIER ] [ 'recall' N ]")
    static void partsInTheirOrder() {
        fine("option a call 5 from 3 out above 7 rebate 2 recall 4;", 1);
        faulty("option a call 5 any once;", 1, 20);
        faulty("option a call 5 out above 7 any;", 1, 28);
        faulty("option a call 5 out above 7 in above 7;", 1, 28);
        faulty("option a call 5 recall 4 any;", 1, 25);
        faulty("option a call 5 recall 4 out above 7;", 1, 25);
        faulty("option a any call 5;", 1, 9);
        faulty("option a;", 1, 8);
        faulty("option;", 1, 6);
    }

    @Says("4 OPTIONS at most, numbered from 0 as told")
    static void fourOptions() {
        OptionBench x = of("option d put 40;option c put 30;option b put 20;option a put 10;");
        for (int k = 0; k < 4; k++) {
            is(x.option(k, 1), 40 - 10 * k);
        }
        faulty(FOUR + "option e call 1;", 4, 64);
    }

    @Says("NAME: a word, none of those in quotes here")
    static void nameIsNoWordInQuotes() {
        for (String word : WORDS.split(" ")) {
            faulty("option " + word + " call 5;", 1, 7);
            faulty("option a call 5;option b over " + word + " 5;", 1, 30);
            fine("option " + word.substring(1) + "x call 5;", 1);
            fine("option q" + word.substring(0, word.length() - 1) + " call 5;", 1);
        }
        fine("option name call 5;option kind put 5;option line put 5;option side put 5;", 4);
        faulty("option 5 call 5;", 1, 7);
        faulty("option ; call 5;", 1, 7);
    }

    @Says("told once.")
    static void nameToldOnce() {
        faulty("option a call 5;option a put 5;", 3, 23);
        faulty("option b call 5;option a call 5;option c call 5;option b", 3, 55);
        fine("option a call 5;option aa call 5;option aaaaaaaa put 5;option aaaaaaab put 5;", 4);
        fine("option ab call 5;option ba call 5;option b put 5;option az put 5;", 4);
        fine("option b call 5;option bb call 5;option ba put 5;option a put 5;", 4);
    }

    // ---- Terms: numbers, words, blanks ----

    @Says("Numbers: digits, 1 to 3")
    static void numbersOfThreeDigits() {
        is(told("cash 7;", 4), 7);
        is(told("cash 007;", 4), 7);
        is(told("stock 000 002;", 3), 0);
        faulty("cash 0007;", 1, 5);
        faulty("cash 0000;", 1, 5);
        faulty("cash 99999999999999999999999999;", 1, 5);
        faulty("cash -1;", 1, 5);
        faulty("cash +1;", 1, 5);
    }

    @Says("words: small letters, 1 to 8")
    static void wordsOfEightLetters() {
        fine("option abcdefgh call 5;option i over abcdefgh 5;", 2);
        fine("option zzzzzzzz call 5;", 1);
        faulty("option abcdefghi call 5;", 1, 7);
        faulty("option abcdefghijklmnopqrstuvwxyz call 5;", 1, 7);
        faulty("Cash 5;", 1, 0);
        faulty("option A call 5;", 1, 7);
        faulty("option a` call 5;", 1, 8);
        faulty("option a{ call 5;", 1, 8);
        // No word of nine letters is taken for one of eight.
        faulty("option bcdefghi call 5;option x over abcdefghi 5;", 1, 37);
    }

    @Says("blanks (32) may stand between all")
    static void blanksBetweenAll() {
        fine("  cash   5  ;  option   a   call   5   ;  ", 1);
        fine("cash 5;option a call 5;", 1);
        faulty("cash\t5;", 1, 4);
        faulty("cash 5\n;", 1, 6);
        faulty("cash 5;\r", 1, 7);
        faulty("cash\u00005;", 1, 4);
        faulty("cash\u00a05;", 1, 4);
        faulty("ca sh 5;", 1, 0);
        faulty("cash 5;\u00ff", 1, 7);
        faulty("cash 5;\u0080", 1, 7);
    }

    @Says("(a word, a number goes on as long as letters and digits do)")
    static void goesOnAsLettersAndDigitsDo() {
        faulty("cash5;", 1, 0);
        faulty("cash 5a;", 1, 5);
        faulty("step 1times 2;", 1, 5);
        faulty("step 1 times2;", 1, 7);
        faulty("option a1 call 5;", 1, 7);
        faulty("option 1a call 5;", 1, 7);
        faulty("option a call 5any;", 1, 14);
        faulty("cash 5/;", 1, 6);
        faulty("cash 5:;", 1, 6);
    }

    // ---- Terms: FAULTS ----

    @Says("FAULTS, the first along the text")
    static void firstFaultAlongTheText() {
        faulty("step 0;cash 1000;", 2, 5);
        faulty("cash 1000;step 0;", 1, 5);
        faulty("cash 0 oops", 2, 5);
        faulty("cash 1;cash 1000", 3, 7);
        faulty(FOUR + "option a over", 4, 64);
        faulty("step 1 times 12;step 0", 4, 16);
        faulty("stock 1 5;step 2", 2, 15);
        faulty("stock 1 5;step 2 oops;", 2, 15);
        faulty("stock 1 5;step 0 times 0;", 2, 15);
        faulty("option a digit 5 0 any any;", 2, 17);
    }

    @Says("of one TOKEN the least")
    static void leastFaultOfOneToken() {
        faulty("step 1 times 12 step 1;", 1, 16);
        faulty("cash 5 cash 6;", 1, 7);
        faulty(FOUR.substring(0, 63) + " option e call 1;", 1, 64);
        faulty("option a call 5;cash 1 a;", 1, 23);
    }

    @Says("1 what is no word, number, ; or can't stand there (at it")
    static void faultAtWhatCannotStandThere() {
        faulty("bench;", 1, 0);
        faulty("5;", 1, 0);
        faulty("times 5;", 1, 0);
        faulty("!", 1, 0);
        faulty("cash !;", 1, 5);
        faulty("cash 5!;", 1, 6);
        faulty("cash a;", 1, 5);
        faulty("step 1 times a;", 1, 13);
        faulty("step 1 2;", 1, 7);
        faulty("step 1 once;", 1, 7);
        faulty("option a cash 5;", 1, 9);
        faulty("option a b 5;", 1, 9);
        faulty("option a 5;", 1, 9);
        faulty("cash 5;!!!", 1, 7);
        // As many of them as there can be.
        faulty(";".repeat(500), 1, 0);
        faulty("!".repeat(500), 1, 0);
        faulty("a".repeat(500), 1, 0);
        faulty("1".repeat(500), 1, 0);
        faulty("cash 1;step 1" + " ".repeat(486) + "!", 1, 499);
    }

    @Says("the end: how many bytes there are")
    static void faultAtTheEnd() {
        faulty("c", 1, 0);
        faulty("cash", 1, 4);
        faulty("cash   ", 1, 7);
        faulty("cash 5", 1, 6);
        faulty("cash 5  ", 1, 8);
        faulty("option", 1, 6);
        faulty("option a", 1, 8);
        faulty("option a over", 1, 13);
        faulty("option a call 5 in above", 1, 24);
        faulty(blanks(494) + "cash 5", 1, 500);
        faulty("cash 5" + blanks(494), 1, 500);
        faulty("cash 5" + blanks(493), 1, 499);
    }

    @Says("2 a number that is not as told .. (at it; of STEPS with times at M)")
    static void faultAtTheNumber() {
        faulty("  cash   0 ;", 2, 9);
        faulty("stock 999 1;", 2, 10);
        faulty("step 1 times 013;", 2, 13);
        faulty("option a digit 005 000;", 2, 19);
        faulty("option a call 5 out below 7 rebate 100;", 2, 35);
    }

    @Says("a FALL by which the price STRIPPED could be below 0")
    static void fallBelowZero() {
        is(of("stock 2 3;step 2;").price(1, 0, 2), 0);
        faulty("stock 1 3;step 2;", 2, 15);
        faulty("stock 0 2;step 1;", 2, 15);
        fine("stock 3 3;step 1;step 2;", 0);
        faulty("stock 3 3;step 2;step 2;", 2, 22);
        faulty("stock 3 3;step 1 times 3;step 1;", 2, 30);
        // Cash that comes is no part of STRIPPED.
        faulty("stock 0 2;cash 99;step 1;cash 99;", 2, 23);
    }

    @Says("of STEPS with times at M")
    static void fallBelowZeroWithTimes() {
        fine("stock 12 2;step 1 times 12;", 0);
        faulty("stock 11 2;step 1 times 12;", 2, 24);
        faulty("stock 3 3;step 1 times 4;", 2, 23);
        faulty("stock 1 3;step 2 times 1;", 2, 23);
        faulty("stock 1 3;step 2 times;", 1, 22);
        faulty("stock 3 3;step 2;step 1 times 2;", 2, 30);
        fine("stock 4 3;step 2;step 1 times 2;", 0);
    }

    @Says("3 a NAME told twice, or (of over) not told ahead, cash told again at a STEP (at the word)")
    static void faultAtTheWord() {
        faulty("option a call 5;  option   a  put", 3, 27);
        faulty("option a call 5;option b  over   c", 3, 33);
        faulty("cash 5;  cash", 3, 9);
    }

    @Says("4 a 13th STEP, a fifth OPTION (at the LINE's first word)")
    static void faultAtTheFirstWord() {
        faulty("step 1 times 12;step", 4, 16);
        faulty("step 1 times 12;  step 1 times 0;", 4, 18);
        faulty("step 1;".repeat(11) + "step 1;cash 1;step 1;", 4, 91);
        faulty(FOUR + "  option", 4, 66);
        faulty(FOUR + "option a call 1000;", 4, 64);
        fine("step 1 times 12;" + FOUR, 4);
    }

    // ---- promise 1 ----

    @Says("A BENCH without STEPS, OPTIONS; an empty tape")
    static void newObject() {
        OptionBench x = new OptionBench();
        int[] due = {0, 0, 2, 100, 0, 0, 0};
        for (int what = 0; what < due.length; what++) {
            is(x.count(what), due[what]);
        }
        is(x.price(0, 0, 0), 100);
        is(x.option(0, 0), HIDDEN);
        is(x.end(1), false);
        fraction(part -> x.book(0, 0, part), 0, 1);
        fraction(part -> x.reach(100, 1, part), 1, 1);
        is(x.extreme(1), 0);
        is(x.bench(), 0);
    }

    // ---- promise 2 ----

    @Says("Twenty bytes come behind the tape, of each number the highest first: how many it has")
    static void feedBehindTheTape() {
        OptionBench x = new OptionBench();
        is(x.feed(0x63617368, 0x20202020, 0x20202020, 0x20202020, 0x20202020), 20);
        is(x.end(5), true);
        is(x.feed(0x37373b20, 0x20202020, 0x20202020, 0x20202020, 0x20202020), 25);
        is(x.bench(), 0);
        is(x.count(4), 77);
        // A byte of 128 and more is no blank, and no letter.
        is(x.feed(0x202020ff, -1, -1, -1, -1), 20);
        is(x.bench(), -1003);
    }

    @Says("NONE, and none come, if it would have more than 540")
    static void feedToAFullTape() {
        OptionBench x = new OptionBench();
        for (int i = 1; i <= 27; i++) {
            is(x.feed(0x20202020, 0x20202020, 0x20202020, 0x20202020, 0x20202020), 20 * i);
        }
        is(x.feed(1, 2, 3, 4, 5), NONE);
        is(x.count(6), 540);
        is(x.end(521), true);
        is(x.feed(-1, -1, -1, -1, -1), NONE);
        is(x.count(6), 521);
        is(x.end(520), true);
        is(x.feed(-1, -1, -1, -1, -1), 540);
        is(x.feed(-1, -1, -1, -1, -1), NONE);
        // None came: what stood there is blank.
        OptionBench y = new OptionBench();
        feed(y, blanks(540));
        is(y.feed(-1, -1, -1, -1, -1), NONE);
        is(y.end(500), true);
        is(y.bench(), 0);
    }

    // ---- promise 3 ----

    @Says("The tape has its first n bytes alone: true")
    static void endAtABound() {
        OptionBench x = new OptionBench();
        is(x.end(0), true);
        feed(x, "cash 5;cash 6;      ");
        is(x.end(20), true);
        is(x.count(6), 20);
        is(x.end(7), true);
        is(x.bench(), 0);
        is(x.count(4), 5);
        feed(x, "cash 5;");
        is(x.end(0), true);
        is(x.count(6), 0);
        is(x.bench(), 0);
        is(x.count(4), 0);
    }

    @Says("false, if it has not so many, or n is below 0")
    static void endRefused() {
        OptionBench x = new OptionBench();
        is(x.end(1), false);
        is(x.end(-1), false);
        feed(x, "cash 5;");
        is(x.end(8), false);
        is(x.end(FAR), false);
        is(x.end(-1), false);
        is(x.end(LOW), false);
        is(x.count(6), 7);
        is(x.bench(), 0);
        is(x.count(4), 5);
        is(x.end(1), false);
    }

    // ---- promise 4 ----

    @Says("The tape (empty then, with a FAULT, too) is the BENCH now")
    static void benchEmptiesTheTape() {
        OptionBench x = new OptionBench();
        feed(x, "cash 5;");
        is(x.bench(), 0);
        is(x.count(6), 0);
        feed(x, "cash 0;");
        is(x.bench(), -1005);
        is(x.count(6), 0);
        feed(x, blanks(540));
        is(x.bench(), -1500);
        is(x.count(6), 0);
        // An empty tape is a BENCH, too: the next one starts anew.
        is(x.bench(), 0);
        is(x.count(4), 0);
    }

    @Says("The tape (empty then, with a FAULT, too) is the BENCH now")
    static void nothingIsLeftOfTheBenchBefore() {
        OptionBench x = of("stock 99 9;cash 5;" + "step 1;cash 7;".repeat(12)
            + "option a put 999 any out below 3 rebate 4 recall 5;option b put 999 any recall 1;");
        is(x.does(0, 12, 12), 1);
        is(x.does(0, 0, 0), 4);
        is(x.does(1, 0, 0), 4);
        feed(x, "step 1 times 12;option b put 200;option c put 200 any in above 500;");
        is(x.bench(), 2);
        is(x.count(2), 2);
        is(x.count(3), 100);
        is(x.count(4), 0);
        int[] due = {1, 200, NONE, 12, 0, NONE, NONE, 0, 0, NONE};
        for (int what = 0; what < due.length; what++) {
            is(x.option(0, what), due[what]);
        }
        is(x.value(0, 0, 0, 0), 100);
        for (int t = 0; t <= 12; t++) {
            is(x.step(t, 1), 0);
            is(x.frontier(0, t), t == 12 ? 8191 : 0);
            is(x.does(1, t, 0), 0);
            is(x.does(1, t, t), 0);
        }
        feed(x, LATTICE + "option a put 50;");
        is(x.bench(), 1);
        is(x.held(0, 2, 2, 0), 0);
        is(x.stands(0, 2, 2, 0), 0);
        is(x.ways(0, 2, 1), 2);
        is(x.option(1, 0), HIDDEN);
    }

    @Says("(the BOOK is empty, nothing can be undone)")
    static void benchEmptiesTheBook() {
        OptionBench x = of(LATTICE + "option a call 5;");
        is(x.own(0, 3), 0);
        is(x.move(20), 0);
        feed(x, LATTICE + "option a call 5;");
        is(x.bench(), 1);
        is(x.option(0, 8), 0);
        is(x.book(0, 0, 0), 0);
        is(x.count(5), 0);
        is(x.undo(), NONE);
        is(x.count(3), 10);
    }

    @Says("how many OPTIONS")
    static void benchTellsHowManyOptions() {
        for (int many = 0; many <= 4; many++) {
            fine(FOUR.substring(0, 16 * many), many);
        }
    }

    @Says("-1000 less the place of a FAULT: it stays")
    static void benchWithAFault() {
        OptionBench x = of(LATTICE + "option a call 8;");
        is(x.own(0, 3), 0);
        is(x.restrike(0, 9), 0);
        feed(x, "!");
        is(x.bench(), -1000);
        feed(x, "stock 99 9;cash 5;step 7;option q put 77;option w call 1; x");
        is(x.bench(), -1058);
        feed(x, blanks(501));
        is(x.bench(), -1500);
        is(x.count(0), 2);
        is(x.count(1), 1);
        is(x.count(2), 4);
        is(x.count(3), 10);
        is(x.count(4), 0);
        is(x.option(0, 0), 0);
        is(x.option(0, 1), 9);
        is(x.option(0, 8), 3);
        fraction(part -> x.value(0, 0, 0, part), 7, 4);
        is(x.undo(), 1);
        is(x.option(0, 1), 8);
    }

    // ---- promise 5 ----

    @Says("The kind of the FAULT of the latest bench(); 0 without one and ahead of any")
    static void faultOfTheLatest() {
        OptionBench x = new OptionBench();
        is(x.fault(), 0);
        String[] texts = {"!", "cash 0;", "cash 1;cash 1;", FOUR + "option"};
        for (int kind = 1; kind <= 4; kind++) {
            feed(x, texts[kind - 1]);
            is(x.fault(), kind - 1);
            x.bench();
            is(x.fault(), kind);
            is(x.move(50 + kind), 0);
            is(x.end(0), true);
            is(x.fault(), kind);
        }
        is(x.bench(), 0);
        is(x.fault(), 0);
        is(x.bench(), 0);
        is(x.fault(), 0);
    }

    public static void main(String[] args) throws IllegalAccessException, IOException {
        runAll(BoundaryTextTest.class);
    }
}
