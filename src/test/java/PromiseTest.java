import java.io.IOException;
import java.nio.charset.StandardCharsets;

/** Each promise of the document by hand: ordinary inputs, its edges, wrong inputs. */
public final class PromiseTest extends Checks {
    private static final String PLAIN = LATTICE + "option c call 9;option p put 11 any;"
        + "option d digit 12 6 from 1;option s either 10 any recall 1;";
    private static final String BARRED = LATTICE + "option o call 8 out above 14 rebate 1;"
        + "option i call 8 any in above 12;option v over o 1 any;option q call 8 out above 12 rebate 1;";

    // ---- the tape and the BENCH ----

    static void promise1() {
        OptionBench x = new OptionBench();
        for (int what = 0; what <= 6; what++) {
            is(x.count(what), what == 2 ? 2 : what == 3 ? 100 : 0);
        }
        is(x.fault(), 0);
        is(x.price(0, 0, 0), 100);
        is(x.undo(), NONE);
        is(x.restore(0), false);
        is(x.restore(1), false);
        is(x.book(0, 0, 1), 1);
        is(x.bench(), 0);
    }

    static void promise2() {
        OptionBench x = new OptionBench();
        is(x.feed(0x6f707469, 0x6f6e2061, 0x20707574, 0x20393132, 0x3b202020), 20);
        is(x.bench(), 1);
        is(x.option(0, 1), 912);
        for (int i = 1; i <= 27; i++) {
            is(x.feed(1, 2, 3, 4, 5), 20 * i);
        }
        is(x.feed(1, 2, 3, 4, 5), NONE);
        is(x.count(6), 540);
        is(x.end(521), true);
        is(x.feed(1, 2, 3, 4, 5), NONE);
        is(x.count(6), 521);
        is(x.end(520), true);
        is(x.feed(-1, -1, -1, -1, -1), 540);
    }

    static void promise3() {
        OptionBench x = new OptionBench();
        is(x.end(0), true);
        is(x.end(1), false);
        x.feed(0, 0, 0, 0, 0);
        is(x.end(-1), false);
        is(x.end(LOW), false);
        is(x.end(21), false);
        is(x.end(FAR), false);
        is(x.end(20), true);
        is(x.end(3), true);
        is(x.count(6), 3);
        is(x.end(4), false);
        is(x.count(6), 3);
    }

    static void promise4() {
        OptionBench x = of(PLAIN);
        is(x.count(6), 0);
        is(x.own(0, 3), 0);
        feed(x, "step 1; step");
        is(x.bench(), -1012);
        is(x.count(6), 0);
        is(x.count(0), 2);
        is(x.option(0, 8), 3);
        is(x.count(5), 1);
        feed(x, "option zz call 5;");
        is(x.bench(), 1);
        is(x.count(0), 0);
        is(x.count(2), 2);
        is(x.count(3), 100);
        is(x.option(0, 8), 0);
        is(x.undo(), NONE);
        is(x.bench(), 0);
        is(x.count(1), 0);
        fine(blanks(484) + "option z put 12;", 1);
        faulty(blanks(485) + "option z put 12;", 1, 500);
        faulty(blanks(490) + "oops" + blanks(20), 1, 500);
        fine(" stock 5  9 ;step 1times".substring(0, 13), 0);
        fine("option callx put 3 ; option b over callx 0;option cc over b 999 from 12 out below 0 recall 99;", 3);
        fine("cash 1;step 1;cash 99;step 1 times 11;cash 5;", 0);
        fine("stock 12 2;step 1 times 12;", 0);
        fine("option a digit 007 01;", 1);
        // As many tokens as there can be.
        faulty(blanks(500).replace(' ', ';'), 1, 0);
        faulty(blanks(500).replace(' ', '!'), 1, 0);
        // Nothing of an earlier text is left.
        OptionBench y = of("stock 100 3;cash 5;step 2 times 12;cash 7;option a call 5 any out above 3 rebate 4 recall 5;");
        feed(y, "step 1 times 12;option b put 9;");
        is(y.bench(), 1);
        is(y.count(4), 0);
        is(y.step(12, 0), 1);
        is(y.option(0, 3), 12);
        is(y.option(0, 4), 0);
        is(y.option(0, 7), 0);
        is(y.option(0, 9), NONE);
    }

    static void promise5Kinds() {
        faulty("step 1", 1, 6);
        faulty("step 1  ", 1, 8);
        faulty("step", 1, 4);
        faulty(";", 1, 0);
        faulty("step 1;;", 1, 7);
        faulty("Step 1;", 1, 0);
        faulty("step 1!;", 1, 6);
        faulty("step 1\0;", 1, 6);
        faulty("step \u00e9;", 1, 5);
        faulty("step1;", 1, 0);
        faulty("step 1times 2;", 1, 5);
        faulty("step 1 times2;", 1, 7);
        faulty("step 0001;", 1, 5);
        faulty("step 1 2;", 1, 7);
        faulty("step 1 once;", 1, 7);
        faulty("step x;", 1, 5);
        faulty("times 1;", 1, 0);
        faulty("cash 1;stock 5 5;", 1, 7);
        faulty("stock 5 5;stock 5 5;", 1, 10);
        faulty("stock 5;", 1, 7);
        faulty("stock ;", 1, 6);
        faulty("stock ;step 1;", 1, 6);
        faulty("option abcdefghi call 5;", 1, 7);
        faulty("option a1 call 5;", 1, 7);
        faulty("option 5 call 5;", 1, 7);
        faulty("option in call 5;", 1, 7);
        faulty("option a step 5;", 1, 9);
        faulty("option a b 5;", 1, 9);
        faulty("option a over 5 5;", 1, 14);
        faulty("option a call 5 any once;", 1, 20);
        faulty("option a call 5 recall 1 any;", 1, 25);
        faulty("option a call 5 in below 3 rebate 2;", 1, 27);
        faulty("option a call 5 in 3;", 1, 19);
        faulty("option a call 5 rebate 3;", 1, 16);
        faulty("option a call 5 out above 3 rebate;", 1, 34);
        for (String word : ("stock step times cash option recall call put digit spread either over once any from out "
                + "rebate in above below").split(" ")) {
            faulty("option " + word + " call 5;", 1, 7);
            faulty("option a call 5;option b over " + word + " 5;", 1, 30);
            fine("option " + word.substring(1) + "zz call 5;", 1);
        }
    }

    static void promise5Numbers() {
        faulty("stock 10 1;", 2, 9);
        faulty("stock 10 10;", 2, 9);
        faulty("step 0;", 2, 5);
        faulty("stock 9 4;step 4;", 2, 15);
        faulty("stock 9 4;step 3 times 4;", 2, 23);
        faulty("stock 2 4;step 3 times 1;", 2, 23);
        faulty("stock 2 4;step 3 any;", 2, 15);
        faulty("stock 2 4;step 3 times;", 1, 22);
        faulty("stock 9 4;step 3 times 3;step 1;", 2, 30);
        faulty("step 1 times 0;", 2, 13);
        faulty("step 1 times 13;", 2, 13);
        faulty("step 1;step 1 times 12;", 2, 20);
        faulty("cash 100;", 2, 5);
        faulty("option a spread 6 6;", 2, 18);
        faulty("option a spread 999 999;", 2, 20);
        faulty("option a digit 5 100;", 2, 17);
        faulty("option a call 5 from 13;", 2, 21);
        faulty("option a call 5 out above 3 rebate 100;", 2, 35);
        faulty("option a call 5 recall 0;", 2, 23);
        faulty("option a call 5 recall 100;", 2, 23);
    }

    static void promise5Told() {
        faulty("cash 1;cash 2;", 3, 7);
        faulty("cash 1;step 1;cash 2;cash;", 3, 21);
        faulty("option a call 5;option a put 5;", 3, 23);
        faulty("option a over a 5;", 3, 14);
        faulty("option a call 5;option b over ab 5;", 3, 30);
        faulty("step 1 times 12;step", 4, 16);
        faulty("step 1 times 12;step 0;", 4, 16);
        faulty("option a call 5;option b call 5;option c call 5;option d call 5;option a;", 4, 64);
        OptionBench x = of("step 1;");
        feed(x, "step 0;");
        x.bench();
        is(x.fault(), 2);
        x.end(0);
        is(x.fault(), 2);
        x.bench();
        is(x.fault(), 0);
    }

    // ---- what it says ----

    static void promise6() {
        OptionBench x = of("stock 500 7;cash 3;step 2;step 3;cash 4;option a call 1;");
        is(x.count(0), 2);
        is(x.count(1), 1);
        is(x.count(2), 7);
        is(x.count(3), 500);
        is(x.count(4), 7);
        is(x.count(5), 0);
        x.own(0, 0);
        is(x.count(5), 1);
        is(x.count(6), 0);
        x.feed(0, 0, 0, 0, 0);
        is(x.count(6), 20);
        is(x.count(7), NONE);
        is(x.count(-1), NONE);
        is(x.count(FAR), NONE);
    }

    static void promise7() {
        OptionBench x = of("stock 500 7;cash 3;step 2;step 5;cash 4;");
        is(x.step(0, 0), NONE);
        is(x.step(1, 0), 2);
        is(x.step(2, 0), 5);
        is(x.step(3, 0), NONE);
        is(x.step(-1, 1), NONE);
        is(x.step(0, 1), 3);
        is(x.step(1, 1), 0);
        is(x.step(2, 1), 4);
        is(x.step(3, 1), NONE);
        is(x.step(1, 2), NONE);
        is(x.step(1, -1), NONE);
        is(x.step(LOW, 0), NONE);
        is(x.step(FAR, 1), NONE);
    }

    static void promise8() {
        OptionBench x = of("step 1 times 5;option a digit 90 7 from 3 out below 80 rebate 4 recall 2;"
            + "option b over a 6 any in above 120;option c spread 5 8 from 9;option e either 3;");
        x.own(1, -4);
        long[][] due = {{2, 90, 7, 3, 1, 0, 80, 4, 0, 2}, {5, 6, 0, 0, 2, 1, 120, 0, -4, NONE},
            {3, 5, 8, 5, 0, NONE, NONE, 0, 0, NONE}, {4, 3, NONE, 5, 0, NONE, NONE, 0, 0, NONE}};
        for (int k = 0; k < 4; k++) {
            for (int what = 0; what < 10; what++) {
                is(x.option(k, what), due[k][what]);
            }
            is(x.option(k, 10), HIDDEN);
            is(x.option(k, -1), HIDDEN);
        }
        is(x.option(4, 0), HIDDEN);
        is(x.option(-1, 0), HIDDEN);
        x = of("option a call 1;option b put 1 once;");
        is(x.option(0, 0), 0);
        is(x.option(1, 0), 1);
        is(x.option(1, 3), 0);
        is(x.option(2, 0), HIDDEN);
    }

    static void promise9() {
        OptionBench x = of("stock 50 7;cash 3;step 2;step 5;cash 4;");
        is(x.price(0, 0, 0), 57);
        is(x.price(0, 0, 1), 54);
        is(x.price(0, 0, 2), 50);
        is(x.price(1, 1, 0), 59);
        is(x.price(1, 1, 1), 59);
        is(x.price(1, 1, 2), 55);
        is(x.price(2, 0, 0), 47);
        is(x.price(2, 2, 0), 61);
        is(x.price(2, 2, 1), 57);
        is(x.price(2, 2, 2), 57);
        is(x.price(2, 2, 3), NONE);
        is(x.price(2, 2, -1), NONE);
        is(x.price(2, 3, 0), NONE);
        is(x.price(2, -1, 0), NONE);
        is(x.price(3, 0, 0), NONE);
        is(x.price(-1, 0, 0), NONE);
        is(x.price(FAR, FAR, 0), NONE);
    }

    // ---- an OPTION at a NODE ----

    private static void wrongNodes(OptionBench x, int which) {
        int[][] all = {{4, 0, 0, 0}, {-1, 0, 0, 0}, {0, 3, 0, 0}, {0, -1, 0, 0}, {0, 1, 2, 0}, {0, 1, -1, 0}, {0, 0, 0, 2},
            {0, 0, 0, -1}, {LOW, 0, 0, 0}, {0, FAR, 0, 0}, {0, FAR, FAR, 0}, {FAR, 0, 0, 1}};
        for (int[] a : all) {
            missing(() -> which == 10 ? x.pays(a[0], a[1], a[2], a[3]) : which == 11 ? x.value(a[0], a[1], a[2], a[3])
                : which == 12 ? x.plain(a[0], a[1], a[2], a[3]) : which == 13 ? x.held(a[0], a[1], a[2], a[3])
                : x.stands(a[0], a[1], a[2], a[3]));
        }
    }

    static void promise10() {
        OptionBench x = of(PLAIN);
        is(x.pays(0, 0, 0, 0), 1);
        is(x.pays(0, 1, 0, 0), 0);
        is(x.pays(0, 1, 0, 1), 1);
        is(x.pays(0, 2, 2, 0), 5);
        is(x.pays(1, 2, 0, 0), 5);
        is(x.pays(1, 2, 2, 0), 0);
        is(x.pays(2, 1, 1, 0), 6);
        is(x.pays(2, 1, 0, 0), 0);
        is(x.pays(3, 1, 0, 0), 2);
        is(x.pays(3, 2, 2, 0), 4);
        is(x.pays(3, 0, 0, 0), 0);
        wrongNodes(x, 10);
        x = of(BARRED);
        is(x.pays(2, 0, 0, 0), 1);
        is(x.pays(2, 0, 0, 1), 4);
        is(x.pays(2, 1, 0, 0), 0);
        is(x.pays(2, 1, 1, 1), 2);
        is(x.pays(0, 2, 2, 0), 6);
        x = of(LATTICE + "option s spread 7 11;cash 1;");
        is(x.pays(0, 0, 0, 0), 4);
        is(x.pays(0, 1, 0, 0), 2);
        is(x.pays(0, 2, 0, 0), 0);
        is(x.pays(0, 2, 2, 0), 4);
    }

    static void promise11() {
        OptionBench x = of(PLAIN);
        is(x.value(0, 0, 0, 0), 7);
        is(x.value(0, 0, 0, 1), 4);
        is(x.value(0, 1, 0, 1), 2);
        is(x.value(1, 1, 0, 0), 3);
        is(x.value(1, 0, 0, 0), 7);
        is(x.value(2, 0, 0, 0), 3);
        is(x.value(2, 0, 0, 1), 1);
        is(x.value(2, 1, 0, 1), 1);
        is(x.value(3, 0, 0, 0), 1);
        is(x.value(3, 1, 1, 0), 2);
        wrongNodes(x, 11);
        x = of(BARRED);
        is(x.value(0, 0, 0, 0), 5);
        is(x.value(0, 0, 0, 1), 4);
        is(x.value(0, 2, 2, 0), 1);
        is(x.value(1, 1, 1, 0), 4);
        is(x.value(1, 2, 1, 0), 0);
        is(x.value(1, 0, 0, 0), 2);
        is(x.value(2, 0, 0, 1), 2);
        is(x.value(3, 0, 0, 0), 1);
    }

    static void promise11Cash() {
        // Cash behind a NODE is in its PRICE: a call is exercised ahead of cash that is paid at the NODE.
        OptionBench x = of("stock 10 4;step 2;cash 3;step 2;option a call 10 any;");
        is(x.pays(0, 1, 1, 0), 5);
        is(x.value(0, 1, 1, 0), 5);
        is(x.does(0, 1, 1), 1);
        is(x.held(0, 1, 1, 0), 2);
        is(x.value(0, 1, 0, 0), 1);
        is(x.value(0, 0, 0, 0), 3);
        is(x.does(0, 0, 0), 1);
    }

    static void promise12() {
        OptionBench x = of(BARRED);
        is(x.plain(0, 0, 0, 0), 5);
        is(x.plain(0, 0, 0, 1), 2);
        is(x.plain(0, 2, 2, 0), 6);
        is(x.plain(1, 2, 1, 0), 2);
        is(x.plain(1, 1, 1, 0), 4);
        is(x.plain(2, 0, 0, 1), 2);
        wrongNodes(x, 12);
        x = of(PLAIN);
        is(x.plain(3, 0, 0, 0), 1);
        is(x.plain(0, 0, 0, 0), 7);
    }

    static void promise13() {
        OptionBench x = of(PLAIN);
        is(x.held(1, 1, 0, 0), 3);
        is(x.held(2, 1, 1, 0), 3);
        is(x.held(3, 0, 0, 0), 2);
        is(x.held(0, 2, 2, 0), 0);
        is(x.held(0, 2, 2, 1), 1);
        wrongNodes(x, 13);
        x = of(BARRED);
        is(x.held(3, 1, 1, 0), 3);
        is(x.held(3, 1, 1, 1), 2);
        is(x.held(1, 1, 1, 0), 3);
        is(x.held(1, 1, 1, 1), 1);
        // Weights are not alike: up 1 by 3.
        x = of("stock 10 3;step 1;option a call 10;");
        is(x.held(0, 0, 0, 0), 2);
        is(x.held(0, 0, 0, 1), 3);
    }

    static void promise14() {
        OptionBench x = of(PLAIN);
        is(x.does(0, 0, 0), 0);
        is(x.does(0, 2, 0), 0);
        is(x.does(0, 2, 1), 1);
        is(x.does(1, 1, 0), 1);
        is(x.does(1, 0, 0), 0);
        is(x.does(3, 0, 0), 4);
        is(x.does(3, 1, 1), 1);
        is(x.does(3, 3, 1), NONE);
        is(x.does(3, 1, 2), NONE);
        is(x.does(4, 0, 0), NONE);
        is(x.does(-1, 0, 0), NONE);
        x = of(BARRED);
        is(x.does(0, 2, 2), 2);
        is(x.does(3, 1, 1), 2);
        is(x.does(1, 1, 1), 3);
        is(x.does(1, 2, 1), 0);
        is(x.does(1, 2, 2), 3);
        is(x.does(2, 1, 1), 1);
        x = of(LATTICE + "option a call 5 any out below 8;option b call 5 any out above 12 rebate 3;");
        is(x.does(0, 1, 0), 2);
        is(x.does(0, 1, 1), 1);
        is(x.does(1, 1, 0), 1);
        is(x.does(1, 1, 1), 2);
    }

    static void promise15() {
        OptionBench x = of(PLAIN);
        is(x.stands(0, 0, 0, 0), 5);
        is(x.stands(0, 0, 0, 1), 8);
        is(x.stands(1, 0, 0, 0), -5);
        is(x.stands(1, 0, 0, 1), 8);
        is(x.stands(0, 1, 1, 0), 1);
        is(x.stands(0, 1, 1, 1), 1);
        is(x.stands(0, 2, 2, 0), 0);
        is(x.stands(0, 2, 2, 1), 1);
        wrongNodes(x, 15);
        x = of(BARRED);
        is(x.stands(0, 1, 1, 0), -1);
        is(x.stands(0, 1, 1, 1), 4);
        is(x.stands(3, 1, 1, 0), 0);
        is(x.stands(1, 1, 1, 0), 1);
        is(x.stands(1, 1, 1, 1), 1);
        is(x.stands(1, 0, 0, 0), 1);
    }

    static void promise16() {
        OptionBench x = of(PLAIN);
        is(x.frontier(1, 0), 0);
        is(x.frontier(1, 1), 1);
        is(x.frontier(1, 2), 3);
        is(x.frontier(0, 2), 6);
        is(x.frontier(3, 1), 3);
        is(x.frontier(3, 2), 5);
        is(x.frontier(3, 3), NONE);
        is(x.frontier(3, -1), NONE);
        is(x.frontier(4, 0), NONE);
        is(x.frontier(-1, 0), NONE);
        is(of(BARRED).frontier(1, 2), 0);
    }

    // ---- BY PLAN ----

    static void promise17() {
        OptionBench x = of(PLAIN);
        is(x.ways(0, 2, 1), 2);
        is(x.ways(0, 2, 2), 1);
        is(x.ways(1, 1, 0), 1);
        is(x.ways(1, 2, 0), 0);
        is(x.ways(1, 2, 1), 1);
        is(x.ways(3, 0, 0), 1);
        is(x.ways(3, 1, 0), 0);
        is(x.ways(0, 3, 0), NONE);
        is(x.ways(0, 1, 2), NONE);
        is(x.ways(4, 0, 0), NONE);
        is(x.ways(-1, 0, 0), NONE);
        x = of(BARRED);
        is(x.ways(1, 1, 1), 1);
        is(x.ways(1, 2, 2), 0);
        is(x.ways(1, 2, 1), 1);
        is(x.ways(3, 2, 1), 1);
        is(of("step 1 times 12;option a call 0;").ways(0, 12, 6), 924);
    }

    static void promise18() {
        OptionBench x = of(PLAIN);
        is(x.ending(1, 1, 0, 0), 1);
        is(x.ending(1, 1, 0, 1), 2);
        is(x.ending(1, 2, 0, 1), 4);
        is(x.ending(1, 2, 2, 1), 4);
        is(x.ending(1, 1, 2, 0), 0);
        is(x.ending(1, 1, 2, 1), 1);
        is(x.ending(3, 0, 3, 0), 1);
        is(x.ending(3, 2, 2, 0), 0);
        x = of(BARRED);
        is(x.ending(0, 2, 1, 1), 4);
        is(x.ending(3, 1, 1, 0), 1);
        is(x.ending(3, 1, 1, 1), 2);
        is(x.ending(1, 1, 0, 1), 2);
        is(x.ending(1, 2, 2, 1), 2);
        OptionBench y = x;
        missing(() -> y.ending(0, 3, 0, 0));
        missing(() -> y.ending(0, -1, 0, 0));
        missing(() -> y.ending(0, 0, 4, 0));
        missing(() -> y.ending(0, 0, -1, 0));
        missing(() -> y.ending(0, 0, 0, 2));
        missing(() -> y.ending(4, 0, 0, 0));
        missing(() -> y.ending(-1, 0, 0, 0));
        // Weighed: up 1 by 3 in the first STEP, 2 by 3 in the second.
        x = of("stock 10 3;step 1;step 2;option a digit 13 5;");
        is(x.ending(0, 2, 0, 0), 2);
        is(x.ending(0, 2, 0, 1), 9);
    }

    static void promise19() {
        OptionBench x = of(PLAIN);
        is(x.life(0, 0), 2);
        is(x.life(0, 1), 1);
        is(x.life(1, 0), 3);
        is(x.life(1, 1), 2);
        is(x.life(3, 0), 0);
        is(x.life(3, 1), 1);
        OptionBench y = x;
        missing(() -> y.life(4, 0));
        missing(() -> y.life(-1, 0));
        missing(() -> y.life(0, 2));
        missing(() -> y.life(0, -1));
        is(of(BARRED).life(1, 0), 3);
    }

    // ---- the WRITER ----

    static void promise20() {
        OptionBench x = of(PLAIN);
        is(x.gain(1, 0, 1, 0), 0);
        is(x.gain(1, 0, 1, 1), 1);
        is(x.gain(1, 0, NONE, 0), 5);
        is(x.gain(1, 0, 2, 0), 0);
        is(x.gain(1, 3, 0, 0), 3);
        is(x.gain(1, 3, 0, 1), 4);
        is(x.gain(1, 1, NONE, 0), 1);
        is(x.gain(1, 2, 1, 0), 0);
        is(x.gain(0, 3, 0, 0), 5);
        is(x.gain(0, 3, 1, 0), 5);
        is(x.gain(0, 3, 2, 0), 0);
        is(x.gain(2, 3, NONE, 0), 9);
        is(x.gain(3, 0, NONE, 0), 0);
        is(x.gain(3, 0, 0, 0), 0);
        is(x.gain(3, 0, 1, 0), 0);
        OptionBench y = x;
        missing(() -> y.gain(4, 0, 0, 0));
        missing(() -> y.gain(-1, 0, 0, 0));
        missing(() -> y.gain(0, 4, 0, 0));
        missing(() -> y.gain(0, -1, 0, 0));
        missing(() -> y.gain(0, 0, 3, 0));
        missing(() -> y.gain(0, 0, -2, 0));
        missing(() -> y.gain(0, 0, 0, 2));
        missing(() -> y.gain(0, FAR, 0, 0));
    }

    static void promise20Barrier() {
        OptionBench x = of(BARRED);
        is(x.gain(1, 3, 2, 0), 0);
        is(x.gain(1, 1, 2, 0), 0);
        is(x.gain(1, 2, 2, 0), 0);
        is(x.gain(1, 3, 0, 0), 6);
        is(x.gain(1, 3, 1, 0), 0);
        is(x.gain(1, 1, 0, 0), 2);
        is(x.gain(0, 3, 2, 0), 0);
        is(x.gain(0, 1, 2, 0), 0);
        is(x.gain(3, 3, 2, 0), 0);
        is(x.gain(3, 1, NONE, 0), 0);
        // RECALLED at the start, unless its owner exercises it there.
        x = of("stock 10 8;step 4 times 2;option a call 8 any recall 1;");
        is(x.does(0, 0, 0), 4);
        is(x.gain(0, 3, NONE, 0), 0);
        is(x.gain(0, 3, 1, 0), 0);
        is(x.gain(0, 3, 0, 0), 1);
    }

    /** The longest paths, where the rows have no place to spare. */
    static void promise21Longest() {
        String text = "stock 60 5;cash 2;step 2 times 6;cash 3;step 3 times 6;option a put 62 any recall 2;"
            + "option b call 58 from 3 in above 70;option c either 61 any out below 50 rebate 4;";
        OptionBench x = of(text);
        Model m = new Model();
        m.tape = text.getBytes(StandardCharsets.ISO_8859_1);
        is(m.bench(), 3);
        for (int k = 0; k < 3; k++) {
            is(x.richest(k, NONE), m.richest(k, NONE));
            is(x.richest(k, 7), m.richest(k, 7));
            is(x.life(k, 0), m.life(k, 0));
            for (int path = 0; path < 4096; path += 91) {
                for (int e = NONE; e <= 12; e += 13) {
                    is(x.gain(k, path, e, 0), m.gain(k, path, e, 0));
                    is(x.gain(k, path, e, 1), m.gain(k, path, e, 1));
                }
            }
            for (int t = 0; t <= 12; t++) {
                is(x.frontier(k, t), m.frontier(k, t));
                is(x.ways(k, t, t / 2), m.ways(k, t, t / 2));
            }
            int upper = k % 2;
            is(x.worthBy(k, 60, upper, 0), m.worthBy(k, 60, upper, 0));
        }
    }

    static void promise21() {
        OptionBench x = of(PLAIN);
        is(x.richest(0, NONE), 3);
        is(x.richest(1, NONE), 0);
        is(x.richest(1, 0), 0);
        is(x.richest(2, NONE), 3);
        is(x.richest(2, 1), 0);
        is(x.richest(0, 2), 0);
        is(x.richest(0, 3), NONE);
        is(x.richest(0, -2), NONE);
        is(x.richest(4, 0), NONE);
        is(x.richest(-1, 0), NONE);
        is(of(BARRED).richest(1, 0), 3);
        is(of(LATTICE + "option a digit 10 6;").richest(0, NONE), 1);
        is(of(LATTICE + "option a call 5 in below 8;").richest(0, NONE), 2);
    }

    // ---- other terms ----

    static void promise22() {
        OptionBench x = of(PLAIN);
        is(x.strike(0, 1), 10);
        is(x.strike(0, 0), 999);
        is(x.strike(0, LOW), 999);
        is(x.strike(0, 10), 0);
        is(x.strike(0, 11), NONE);
        is(x.strike(0, FAR), NONE);
        is(x.strike(1, 1), 10);
        is(x.strike(1, 0), 0);
        is(x.strike(1, LOW), 0);
        is(x.strike(1, 989), 999);
        is(x.strike(1, 990), NONE);
        is(x.strike(1, FAR), NONE);
        is(x.strike(2, 1), NONE);
        is(x.strike(3, 1), NONE);
        is(x.strike(4, 1), NONE);
        is(x.strike(-1, 1), NONE);
        is(x.option(0, 1), 9);
        is(x.value(0, 0, 0, 0), 7);
    }

    static void promise23() {
        OptionBench x = of(PLAIN);
        is(x.early(1, 0), 0);
        is(x.early(1, 1), 1);
        is(x.early(2, 0), 3);
        is(x.early(2, 1), 2);
        is(x.early(0, 0), 0);
        is(x.value(2, 0, 0, 0), 3);
        is(x.option(2, 3), 1);
        missing(() -> x.early(4, 0));
        missing(() -> x.early(-1, 0));
        missing(() -> x.early(0, 2));
        missing(() -> x.early(0, -1));
        // The other OPTION keeps its own right.
        OptionBench y = of(LATTICE + "option a digit 12 6 any;option b over a 1 any;");
        is(y.early(1, 0), 5);
        is(y.early(1, 1), 4);
    }

    static void promise24() {
        OptionBench x = of(PLAIN);
        is(x.worthBy(1, 8, 0, 0), 7);
        is(x.worthBy(1, 8, 0, 1), 4);
        is(x.worthBy(1, 9, 0, 0), 7);
        is(x.worthBy(1, 10, 0, 0), 1);
        is(x.worthBy(1, 10, 1, 0), 1);
        is(x.worthBy(1, 11, 1, 0), 7);
        is(x.worthBy(2, 0, 1, 0), 3);
        is(x.worthBy(2, 12, 1, 0), 3);
        is(x.worthBy(2, 13, 1, 1), 2);
        is(x.worthBy(3, 2999, 1, 0), 2);
        is(x.worthBy(0, 0, 1, 0), 7);
        missing(() -> x.worthBy(0, -1, 0, 0));
        missing(() -> x.worthBy(0, 3000, 0, 0));
        missing(() -> x.worthBy(0, 0, 2, 0));
        missing(() -> x.worthBy(0, 0, -1, 0));
        missing(() -> x.worthBy(0, 0, 0, 2));
        missing(() -> x.worthBy(4, 0, 0, 0));
        missing(() -> x.worthBy(-1, 0, 0, 0));
        OptionBench y = of(BARRED);
        is(y.worthBy(3, 0, 1, 0), 1);
        is(y.worthBy(1, 14, 1, 0), 2);
        is(y.worthBy(0, 0, 1, 1), 4);
        OptionBench z = of(LATTICE + "option a call 5 any in below 8;");
        // IN by 8; then 3 there, or 1 and 5 behind it.
        is(z.worthBy(0, 0, 1, 0), 3);
        is(z.worthBy(0, 0, 1, 1), 2);
    }

    static void promise25() {
        OptionBench x = of(PLAIN);
        is(x.bestBy(1, 0), 0);
        is(x.bestBy(1, 1), 11);
        is(x.bestBy(2, 1), 0);
        is(x.bestBy(2, 0), 12);
        is(x.bestBy(0, 0), 0);
        is(x.bestBy(0, 2), NONE);
        is(x.bestBy(0, -1), NONE);
        is(x.bestBy(4, 0), NONE);
        is(x.bestBy(-1, 0), NONE);
        is(of("option a call 5 any;").bestBy(0, 1), 0);
        is(of("stock 10 4;step 2;cash 3;step 2;option a call 10 any;").bestBy(0, 1), 0);
    }

    static void promise26() {
        OptionBench x = of(PLAIN);
        is(x.reach(12, 1, 0), 1);
        is(x.reach(12, 1, 1), 2);
        is(x.reach(13, 1, 1), 4);
        is(x.reach(15, 1, 0), 0);
        is(x.reach(15, 1, 1), 1);
        is(x.reach(10, 1, 0), 1);
        is(x.reach(10, 1, 1), 1);
        is(x.reach(11, 1, 1), 2);
        is(x.reach(8, 0, 1), 2);
        is(x.reach(7, 0, 1), 4);
        is(x.reach(5, 0, 0), 0);
        is(x.reach(2999, 0, 1), 1);
        missing(() -> x.reach(3000, 0, 0));
        missing(() -> x.reach(-1, 0, 0));
        missing(() -> x.reach(0, 2, 0));
        missing(() -> x.reach(0, -1, 0));
        missing(() -> x.reach(0, 0, 2));
        is(of("stock 10 4;step 2;step 2;cash 2;").reach(14, 1, 1), 2);
    }

    // ---- the BOOK ----

    static void promise27() {
        OptionBench x = of(PLAIN);
        is(x.own(0, 9), 0);
        is(x.own(0, -9), 9);
        is(x.own(0, -1), -9);
        is(x.own(0, 10), HIDDEN);
        is(x.own(0, -10), HIDDEN);
        is(x.own(4, 0), HIDDEN);
        is(x.own(-1, 0), HIDDEN);
        is(x.own(0, 0), -1);
        is(x.option(0, 8), 0);
        is(x.option(1, 8), 0);
    }

    private static OptionBench owned() {
        OptionBench x = of(PLAIN);
        x.own(0, 2);
        x.own(1, -1);
        return x;
    }

    static void promise28() {
        OptionBench x = owned();
        is(x.book(0, 0, 0), 7);
        is(x.book(0, 0, 1), 4);
        is(x.book(2, 0, 0), -5);
        is(x.book(1, 0, 0), -2);
        is(x.book(1, 1, 1), 2);
        missing(() -> x.book(3, 0, 0));
        missing(() -> x.book(1, 2, 0));
        missing(() -> x.book(-1, 0, 0));
        missing(() -> x.book(0, -1, 0));
        missing(() -> x.book(0, 0, 2));
        missing(() -> x.book(0, 0, -1));
        is(of(PLAIN).book(0, 0, 0), 0);
        is(of(PLAIN).book(0, 0, 1), 1);
    }

    static void promise29() {
        OptionBench x = owned();
        is(x.cover(0, 0, 0, 0), 15);
        is(x.cover(0, 0, 0, 1), 8);
        is(x.cover(0, 0, 1, 0), -17);
        is(x.cover(0, 0, 1, 1), 1);
        is(x.cover(2, 0, 0, 0), 0);
        is(x.cover(2, 0, 1, 0), -5);
        missing(() -> x.cover(0, 0, 2, 0));
        missing(() -> x.cover(0, 0, -1, 0));
        missing(() -> x.cover(0, 0, 0, 2));
        missing(() -> x.cover(3, 0, 0, 0));
        missing(() -> x.cover(1, 2, 0, 0));
        missing(() -> x.cover(0, -1, 0, 0));
        OptionBench y = of(BARRED);
        y.own(1, 3);
        is(y.cover(1, 1, 0, 0), 3);
        is(y.cover(1, 1, 1, 0), -24);
        OptionBench z = of("stock 10 4;step 2;cash 5;option a call 0;");
        z.own(0, 1);
        is(z.cover(0, 0, 0, 0), 1);
        is(z.cover(0, 0, 1, 0), 5);
    }

    static void promise29Greatest() {
        StringBuilder text = new StringBuilder("stock 999 9;cash 99;");
        for (int t = 1; t <= 12; t++) {
            text.append("step ").append(t == 7 ? 7 : 1).append(";cash 99;");
        }
        text.append("option a either 0 any out above 999;option b call 0 any out below 0;option c over a 0;")
            .append("option d call 0 out above 999 rebate 1;");
        OptionBench x = of(text.toString());
        Model m = new Model();
        m.tape = text.toString().getBytes(StandardCharsets.ISO_8859_1);
        is(m.bench(), 4);
        for (int round = 0; round < 3; round++) {
            for (int k = 0; k < 4; k++) {
                int many = round == 0 ? 9 : round == 1 ? -9 : k % 2 == 0 ? 9 : -9;
                x.own(k, many);
                m.own(k, many);
            }
            for (int t = 0; t <= 12; t++) {
                for (int j = 0; j <= t; j++) {
                    for (int part = 0; part < 2; part++) {
                        is(x.book(t, j, part), m.book(t, j, part));
                        is(x.cover(t, j, 0, part), m.cover(t, j, 0, part));
                        is(x.cover(t, j, 1, part), m.cover(t, j, 1, part));
                    }
                }
            }
        }
    }

    static void promise30() {
        OptionBench x = owned();
        is(x.extreme(0), 0);
        is(x.extreme(1), 2);
        is(x.extreme(2), NONE);
        is(x.extreme(-1), NONE);
        is(of(PLAIN).extreme(0), 0);
        is(of(PLAIN).extreme(1), 0);
        OptionBench y = of(PLAIN);
        y.own(3, 1);
        is(y.extreme(0), 1);
        is(y.extreme(1), 0);
        OptionBench z = of(LATTICE + "option a digit 10 3;");
        z.own(0, 1);
        is(z.extreme(1), 1);
    }

    // ---- told anew ----

    static void promise31() {
        OptionBench x = of(PLAIN);
        is(x.value(0, 0, 0, 0), 7);
        is(x.move(10), 1);
        is(x.count(5), 0);
        is(x.move(12), 0);
        is(x.count(3), 12);
        is(x.price(0, 0, 0), 12);
        is(x.value(0, 0, 0, 0), 13);
        is(x.move(-1), NONE);
        is(x.move(1000), NONE);
        is(x.move(3), NONE);
        is(x.move(4), 0);
        is(x.move(999), 0);
        is(x.move(LOW), NONE);
        is(x.count(5), 3);
        is(of("").move(0), 0);
        is(of("step 1;").move(0), NONE);
        is(of("step 1;").move(1), 0);
    }

    static void promise32() {
        OptionBench x = of(PLAIN);
        is(x.fall(1, 2), 1);
        is(x.fall(1, 3), 0);
        is(x.step(1, 0), 3);
        is(x.step(2, 0), 2);
        is(x.price(1, 0, 0), 7);
        is(x.fall(1, 4), NONE);
        is(x.fall(1, 0), NONE);
        is(x.fall(0, 1), NONE);
        is(x.fall(3, 1), NONE);
        is(x.fall(FAR, 1), NONE);
        is(x.fall(2, 3), 0);
        x.move(6);
        is(x.fall(1, 3), 1);
        x.fall(1, 1);
        x.move(4);
        is(x.fall(1, 2), NONE);
        is(x.fall(2, 2), 0);
        is(x.fall(1, 2), 0);
    }

    static void promise33() {
        OptionBench x = of(PLAIN);
        is(x.cash(0, 0), 1);
        is(x.cash(2, 5), 0);
        is(x.step(2, 1), 5);
        is(x.count(4), 5);
        is(x.price(0, 0, 0), 15);
        is(x.value(0, 2, 2, 0), 10);
        is(x.cash(2, 5), 1);
        is(x.cash(2, 100), NONE);
        is(x.cash(2, -1), NONE);
        is(x.cash(3, 1), NONE);
        is(x.cash(-1, 1), NONE);
        is(x.cash(0, 99), 0);
        is(x.cash(2, 0), 0);
        is(x.count(4), 99);
    }

    static void promise34() {
        OptionBench x = of(LATTICE + "option s spread 7 11;option a call 9;option v over a 1;");
        is(x.restrike(0, 11), NONE);
        is(x.restrike(0, 12), NONE);
        is(x.restrike(0, 7), 1);
        is(x.restrike(0, 10), 0);
        is(x.option(0, 1), 10);
        is(x.option(0, 2), 11);
        is(x.value(0, 2, 2, 0), 1);
        is(x.restrike(1, 999), 0);
        is(x.value(2, 0, 0, 0), 0);
        is(x.restrike(1, 0), 0);
        is(x.value(1, 0, 0, 0), 10);
        is(x.restrike(1, 1000), NONE);
        is(x.restrike(1, -1), NONE);
        is(x.restrike(3, 1), NONE);
        is(x.restrike(-1, 1), NONE);
        is(x.restrike(2, 5), 0);
    }

    static void promise35() {
        OptionBench x = of(PLAIN);
        is(x.undo(), NONE);
        x.own(0, 4);
        x.move(20);
        x.fall(2, 1);
        x.cash(1, 7);
        x.restrike(3, 17);
        x.own(0, 4);
        x.own(0, 40);
        x.move(20);
        is(x.count(5), 6);
        is(x.undo(), 5);
        is(x.option(0, 8), 4);
        is(x.undo(), 4);
        is(x.option(3, 1), 10);
        is(x.undo(), 3);
        is(x.step(1, 1), 0);
        is(x.undo(), 2);
        is(x.step(2, 0), 2);
        is(x.undo(), 1);
        is(x.count(3), 10);
        is(x.value(0, 0, 0, 0), 7);
        is(x.undo(), 0);
        is(x.option(0, 8), 0);
        is(x.undo(), NONE);
        for (int i = 1; i <= 9; i++) {
            x.own(1, i);
        }
        x.own(1, -5);
        is(x.count(5), 8);
        for (int more = 7; more >= 0; more--) {
            is(x.undo(), more);
        }
        is(x.undo(), NONE);
        is(x.option(1, 8), 2);
    }

    static void promise36() {
        OptionBench x = of(PLAIN);
        is(x.image(2), false);
        is(x.image(-1), false);
        is(x.image(LOW), false);
        x.own(0, 3);
        is(x.image(0), true);
        is(x.count(5), 1);
        x.move(30);
        is(x.image(1), true);
        x.own(0, 5);
        is(x.restore(0), true);
        is(x.count(3), 10);
        is(x.option(0, 8), 3);
        is(x.restore(1), true);
        is(x.count(3), 30);
        is(x.option(0, 8), 3);
        x.fall(1, 1);
        is(x.image(1), true);
        x.fall(1, 3);
        is(x.restore(1), true);
        is(x.step(1, 0), 1);
    }

    static void promise37() {
        OptionBench x = of(PLAIN);
        is(x.restore(0), false);
        is(x.restore(2), false);
        is(x.restore(-1), false);
        x.own(0, 1);
        x.image(1);
        is(x.restore(0), false);
        feed(x, "step 5;");
        x.bench();
        is(x.fault(), 2);
        feed(x, "stock 5 5;cash 9;");
        is(x.bench(), 0);
        feed(x, "step 5;");
        x.bench();
        feed(x, "option");
        x.move(3);
        is(x.restore(1), true);
        is(x.count(0), 2);
        is(x.count(1), 4);
        is(x.count(2), 4);
        is(x.count(4), 0);
        is(x.count(5), 0);
        is(x.count(6), 6);
        is(x.fault(), 2);
        is(x.undo(), NONE);
        is(x.option(0, 8), 1);
        is(x.value(0, 0, 0, 0), 7);
        is(x.own(0, 2), 1);
        is(x.restore(1), true);
        is(x.option(0, 8), 1);
    }

    public static void main(String[] args) throws IllegalAccessException, IOException {
        runAll(PromiseTest.class);
    }
}
