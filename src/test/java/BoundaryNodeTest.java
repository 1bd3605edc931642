import java.io.IOException;

/** The boundary cases of what is told of steps, nodes and options, and of promises 6 to 19: a test for each sentence. */
public final class BoundaryNodeTest extends Checks {
    private static final String FOUR = LATTICE + "option a call 9;option b put 11 any;option c digit 12 6;option d either 10;";

    private interface AtNode {
        long answer(int k, int t, int j, int part);
    }

    /** No such OPTION, STEP, NODE or part: of a BENCH with 2 STEPS and 4 OPTIONS. */
    private static void refusesOthers(AtNode call) {
        int[][] others = {{-1, 0, 0, 0}, {4, 0, 0, 0}, {0, -1, 0, 0}, {0, 3, 0, 0}, {0, 3, 3, 0}, {0, 0, -1, 0}, {0, 0, 1, 0},
            {0, 2, 3, 0}, {0, 0, 0, -1}, {0, 0, 0, 2}, {LOW, 0, 0, 0}, {FAR, 0, 0, 0}, {0, LOW, 0, 0}, {0, FAR, 0, 0},
            {0, FAR, FAR, 0}, {0, 0, LOW, 0}, {0, 0, FAR, 0}, {0, 0, 0, LOW}, {0, 0, 0, FAR}, {0, 65535, 65535, 0},
            {0, -2, -1, 0}, {0, LOW, LOW, 0}};
        for (int[] o : others) {
            missing(() -> call.answer(o[0], o[1], o[2], o[3]));
        }
        call.answer(0, 0, 0, 0);
        call.answer(3, 2, 2, 1);
        call.answer(3, 2, 0, 0);
    }

    private static OptionBench option(String told) {
        return of(LATTICE + "option a " + told + ";");
    }

    private static OptionBench wide(String told) {
        return of(WIDE + "option a " + told + ";");
    }

    // ---- Terms: NODES, PRICES ----

    @Says("At STEP t (0 at first; N STEPS in all) NODE j (0 to t: so often it went up)")
    static void nodesOfAStep() {
        OptionBench x = of(LATTICE);
        int[][] due = {{10}, {8, 12}, {6, 10, 14}};
        for (int t = 0; t <= 2; t++) {
            is(x.price(t, -1, 2), NONE);
            for (int j = 0; j <= t; j++) {
                is(x.price(t, j, 2), due[t][j]);
            }
            is(x.price(t, t + 1, 2), NONE);
        }
        OptionBench y = of("stock 50 9;step 1 times 12;");
        is(y.price(12, 12, 2), 50 - 12 + 108);
        is(y.price(12, 0, 2), 38);
        is(y.price(12, 13, 2), NONE);
        is(y.price(13, 0, 2), NONE);
        is(of("").price(0, 0, 2), 100);
        is(of("").price(1, 0, 2), NONE);
    }

    @Says("STRIPPED: the price at first, less all FALLS up to t, and j times WIDTH")
    static void strippedAtZero() {
        OptionBench x = of("stock 8 9;step 8;");
        is(x.price(1, 0, 2), 0);
        is(x.price(1, 0, 0), 0);
        is(x.price(1, 1, 2), 9);
        is(of("stock 0 9;").price(0, 0, 2), 0);
    }

    @Says("PRICE: STRIPPED, and all cash from STEP t on (that of t, too)")
    static void priceHasTheCashOfItsStep() {
        OptionBench x = of("stock 10 4;cash 1;step 2;cash 20;step 2;cash 40;");
        is(x.price(0, 0, 0), 10 + 61);
        is(x.price(1, 0, 0), 8 + 60);
        is(x.price(1, 1, 0), 12 + 60);
        is(x.price(2, 2, 0), 14 + 40);
    }

    @Says("UP is weighed FALL by WIDTH, DOWN the rest of 1")
    static void weightsOfTheNextStep() {
        // Up is 1 by 9 in the first STEP, 8 by 9 in the second.
        OptionBench x = of("stock 10 9;step 1;step 8;option a digit 19 9;option b put 2;");
        fraction(part -> x.value(0, 1, 1, part), 8, 1);
        fraction(part -> x.value(0, 0, 0, part), 8, 9);
        fraction(part -> x.value(1, 1, 0, part), 1, 9);
        fraction(part -> x.value(1, 0, 0, part), 8, 81);
    }

    // ---- Terms: PAYS ----

    @Says("digit: N, if PRICE is K at least")
    static void digitAtItsStrike() {
        OptionBench x = option("digit 12 7");
        is(x.pays(0, 1, 1, 0), 7);
        is(x.pays(0, 0, 0, 0), 0);
        is(x.pays(0, 2, 2, 0), 7);
        is(option("digit 13 7").pays(0, 1, 1, 0), 0);
        is(option("digit 11 7").pays(0, 1, 1, 0), 7);
        is(of("stock 0 2;option a digit 0 7;").pays(0, 0, 0, 0), 7);
    }

    @Says("spread: PRICE less K, but no more than the second K less the first one")
    static void spreadAtItsStrikes() {
        OptionBench x = option("spread 8 12");
        is(x.pays(0, 1, 0, 0), 0);
        is(x.pays(0, 0, 0, 0), 2);
        is(x.pays(0, 1, 1, 0), 4);
        is(x.pays(0, 2, 2, 0), 4);
        is(option("spread 8 13").pays(0, 2, 2, 0), 5);
        is(option("spread 8 13").pays(0, 1, 1, 0), 4);
        is(option("spread 7 8").pays(0, 1, 0, 0), 1);
    }

    @Says("either: PRICE less K or K less PRICE, what is more")
    static void eitherAtItsStrike() {
        OptionBench x = option("either 10");
        is(x.pays(0, 0, 0, 0), 0);
        is(x.pays(0, 1, 0, 0), 2);
        is(x.pays(0, 1, 1, 0), 2);
        is(option("either 0").pays(0, 2, 0, 0), 6);
        is(option("either 999").pays(0, 2, 2, 0), 985);
    }

    @Says("over: VALUE of the other OPTION there (as if that was not TOUCHED ahead) less K")
    static void overAnotherThatIsTouched() {
        // OUT at 12 and 14: behind it, at 10, the other one counts as if it was not.
        OptionBench x = of(LATTICE + "option a call 5 out above 12 rebate 3;option b over a 1;option c over a 3;");
        is(x.pays(1, 1, 1, 0), 2);
        is(x.pays(1, 2, 1, 0), 4);
        is(x.pays(1, 2, 2, 0), 2);
        is(x.pays(2, 2, 2, 0), 0);
        is(x.pays(2, 2, 1, 0), 2);
        // Not IN at 10 and 6; IN at 14.
        OptionBench y = of(LATTICE + "option a call 5 in above 14;option b over a 1;");
        is(y.pays(1, 2, 2, 0), 8);
        is(y.pays(1, 2, 1, 0), 0);
        fraction(part -> y.pays(1, 1, 1, part), 7, 2);
    }

    @Says("all 0 at least")
    static void paysZeroAtLeast() {
        OptionBench x = of(LATTICE + "option a call 11;option b put 9;option c spread 11 15;option d over a 99;");
        for (int k = 0; k < 4; k++) {
            int option = k;
            fraction(part -> x.pays(option, 0, 0, part), 0, 1);
        }
        is(option("call 10").pays(0, 0, 0, 0), 0);
        is(option("put 10").pays(0, 0, 0, 0), 0);
        is(option("call 9").pays(0, 0, 0, 0), 1);
        is(option("put 11").pays(0, 0, 0, 0), 1);
    }

    // ---- Terms: MAY, TOUCHED ----

    private static void exercisedBySteps(String told, int first, int second, int third) {
        // What is HELD is no more than what it PAYS anywhere: it is EXERCISED wherever it MAY.
        OptionBench x = option("put 50" + told);
        is(x.frontier(0, 0), first);
        is(x.frontier(0, 1), second);
        is(x.frontier(0, 2), third);
    }

    @Says("It MAY be exercised at STEP N")
    static void mayAtTheLastStep() {
        exercisedBySteps("", 0, 0, 7);
        exercisedBySteps(" once", 0, 0, 7);
        is(of("option a put 101;").does(0, 0, 0), 1);
    }

    @Says("by 'any' at each")
    static void mayAtEachStep() {
        exercisedBySteps(" any", 1, 3, 7);
    }

    @Says("by 'from' at T and behind it")
    static void mayFromAStepOn() {
        exercisedBySteps(" from 0", 1, 3, 7);
        exercisedBySteps(" from 1", 0, 3, 7);
        exercisedBySteps(" from 2", 0, 0, 7);
        // Behind the last STEP there is none: what is left is STEP N.
        exercisedBySteps(" from 3", 0, 0, 7);
        exercisedBySteps(" from 12", 0, 0, 7);
    }

    @Says("TOUCHED is a NODE whose PRICE is N at least (above), N at most (below)")
    static void touchedAtItsNumber() {
        for (int number = 11; number <= 15; number++) {
            OptionBench x = option("call 50 out above " + number);
            is(x.does(0, 0, 0), 0);
            is(x.does(0, 1, 1), number <= 12 ? 2 : 0);
            is(x.does(0, 2, 2), number <= 14 ? 2 : 0);
            OptionBench y = option("call 50 in below " + (20 - number));
            is(y.does(0, 0, 0), 0);
            is(y.does(0, 1, 0), number <= 12 ? 3 : 0);
            is(y.does(0, 2, 0), number <= 14 ? 3 : 0);
        }
        is(option("call 50 out above 10").does(0, 0, 0), 2);
        is(option("call 50 in below 10").does(0, 0, 0), 3);
        is(option("call 50 in above 0").does(0, 2, 0), 3);
        is(of("stock 0 2;option a call 5 out below 0;").does(0, 0, 0), 2);
        is(of("stock 1 2;option a call 5 out below 0;").does(0, 0, 0), 0);
    }

    @Says("TOUCHED is a NODE whose PRICE is N at least")
    static void touchedByPriceWithCash() {
        OptionBench x = of("stock 10 4;step 2;cash 3;step 2;option a call 50 out above 15;option b call 50 out below 11;");
        is(x.does(0, 1, 1), 2);
        is(x.does(0, 2, 2), 0);
        is(x.does(0, 0, 0), 0);
        is(x.does(1, 1, 0), 2);
        is(x.does(1, 0, 0), 0);
    }

    // ---- Terms: VALUE ----

    @Says("HELD (0 at STEP N)")
    static void heldAtTheLastStep() {
        OptionBench x = option("put 50");
        for (int j = 0; j <= 2; j++) {
            int node = j;
            fraction(part -> x.held(0, 2, node, part), 0, 1);
        }
        fraction(part -> of("option a put 150;").held(0, 0, 0, part), 0, 1);
        OptionBench y = of("step 1 times 12;option a put 150;");
        fraction(part -> y.held(0, 12, 12, part), 0, 1);
        fraction(part -> y.held(0, 12, 0, part), 0, 1);
    }

    @Says("TOUCHED, out: its rebate")
    static void valueWhereOut() {
        OptionBench x = option("put 50 any out below 8 rebate 3");
        is(x.value(0, 1, 0, 0), 3);
        is(x.value(0, 2, 0, 0), 3);
        is(x.value(0, 2, 1, 0), 40);
        is(option("put 50 any out below 8").value(0, 1, 0, 0), 0);
        is(option("put 50 any out below 10 rebate 99").value(0, 0, 0, 0), 99);
        is(option("put 50 any out below 10 rebate 0").value(0, 0, 0, 0), 0);
        // RECALLED would cost less than the rebate.
        is(option("put 9 out below 10 rebate 99 recall 1").value(0, 0, 0, 0), 99);
    }

    @Says("TOUCHED, in: PLAIN")
    static void valueWhereIn() {
        OptionBench x = option("put 50 any in below 6");
        is(x.value(0, 2, 0, 0), 44);
        is(x.value(0, 2, 1, 0), 0);
        is(option("put 50 any in below 10").value(0, 0, 0, 0), 40);
        // PLAIN is RECALLED at the start.
        is(option("either 10 any in above 10 recall 1").value(0, 0, 0, 0), 1);
    }

    @Says("by in else HELD")
    static void valueWhereNotYetIn() {
        OptionBench x = option("put 50 any in below 6 recall 1");
        fraction(part -> x.value(0, 0, 0, part), 11, 1);
        fraction(part -> x.value(0, 1, 0, part), 22, 1);
        is(x.value(0, 2, 2, 0), 0);
        is(x.does(0, 0, 0), 0);
        is(x.does(0, 1, 0), 0);
        is(x.does(0, 2, 2), 0);
        // What is HELD is more than it PAYS and N: only one that is IN is RECALLED.
        OptionBench y = option("either 10 in below 6 recall 1");
        fraction(part -> y.value(0, 1, 0, part), 2, 1);
        fraction(part -> y.value(0, 0, 0, part), 1, 1);
        is(y.does(0, 0, 0), 0);
    }

    @Says("what it PAYS, if that is no less than KEPT")
    static void exercisedForAsMuchAsKept() {
        // HELD is 40 at the start, and so is what it PAYS.
        OptionBench x = option("put 50 any");
        is(x.does(0, 0, 0), 1);
        is(x.held(0, 0, 0, 0), 40);
        is(x.value(0, 0, 0, 0), 40);
        // HELD 7 by 4 is more than 1.
        OptionBench y = option("put 11 any");
        is(y.does(0, 0, 0), 0);
        fraction(part -> y.value(0, 0, 0, part), 7, 4);
        // HELD 2 with the cash, 3 without: it PAYS 3.
        OptionBench z = of("stock 10 4;cash 1;step 2;option a call 8 any;");
        is(z.does(0, 0, 0), 1);
        is(z.value(0, 0, 0, 0), 3);
        is(z.held(0, 0, 0, 0), 2);
    }

    @Says("is above 0, and it MAY")
    static void exercisedForMoreThanZero() {
        OptionBench x = option("call 14 any");
        is(x.does(0, 2, 2), 0);
        is(x.does(0, 0, 0), 0);
        is(x.value(0, 2, 2, 0), 0);
        is(option("call 13 any").does(0, 2, 2), 1);
        is(option("put 6").does(0, 2, 0), 0);
        is(option("put 7").does(0, 2, 0), 1);
        is(option("either 14").does(0, 2, 2), 0);
        is(of("option a call 100;").does(0, 0, 0), 0);
        is(of("option a call 99;").does(0, 0, 0), 1);
        is(option("put 50 from 1").does(0, 0, 0), 0);
        is(option("put 50 from 1").value(0, 0, 0, 0), 40);
    }

    @Says("what it PAYS (whether it MAY or not) and N, if that is less than HELD")
    static void recalledForLessThanHeld() {
        // HELD is 2 at the start, it PAYS 0.
        is(option("either 10 recall 1").does(0, 0, 0), 4);
        is(option("either 10 recall 1").value(0, 0, 0, 0), 1);
        is(option("either 10 recall 2").does(0, 0, 0), 0);
        is(option("either 10 recall 2").value(0, 0, 0, 0), 2);
        is(option("either 10 recall 3").does(0, 0, 0), 0);
        // HELD is 7 by 2 there, it would PAY 2, and MAY not.
        OptionBench x = wide("call 8 recall 1");
        is(x.does(0, 0, 0), 4);
        is(x.value(0, 0, 0, 0), 3);
        fraction(part -> x.held(0, 0, 0, part), 7, 2);
        // 2 and 2 is more than 7 by 2.
        OptionBench y = wide("call 8 recall 2");
        is(y.does(0, 0, 0), 0);
        fraction(part -> y.value(0, 0, 0, part), 7, 2);
        // At STEP N nothing is HELD, and nothing RECALLED.
        is(option("either 10 recall 1").does(0, 2, 1), 0);
        is(option("either 10 recall 1").does(0, 2, 2), 1);
    }

    @Says("PLAIN: VALUE of the OPTION without its BARRIER")
    static void plainHasNoBarrier() {
        OptionBench x = of(LATTICE + "option a put 50 any out below 10 rebate 3;option b either 10 any in above 14 recall 1;"
            + "option c over a 1 out above 0 rebate 9;");
        is(x.plain(0, 0, 0, 0), 40);
        is(x.plain(1, 0, 0, 0), 1);
        is(x.plain(1, 2, 0, 0), 4);
        // The other one keeps its BARRIER: over it there is 2, 2, 35 to have at the end.
        fraction(part -> x.plain(2, 0, 0, part), 41, 4);
        is(x.value(2, 0, 0, 0), 9);
        is(x.plain(2, 2, 2, 0), 35);
    }

    @Says("It DOES 0: HELD; 1: EXERCISED; 2: OUT; 3: IN; 4: RECALLED (not EXERCISED, KEPT is less than HELD)")
    static void outAndInGoFirst() {
        is(option("put 50 any out above 0 recall 1").does(0, 0, 0), 2);
        is(option("put 50 any in above 0 recall 1").does(0, 0, 0), 3);
        is(option("put 50 any in above 0 recall 1").does(0, 2, 2), 3);
        is(option("put 50 any out above 0 recall 1").does(0, 2, 0), 2);
        // It PAYS as much as is HELD: EXERCISED, not RECALLED.
        is(option("put 50 any recall 1").does(0, 0, 0), 1);
        is(option("put 50 any out above 99 recall 1").does(0, 0, 0), 1);
        is(option("put 50 any in above 99").does(0, 0, 0), 0);
        is(option("either 10 any out above 99 recall 1").does(0, 0, 0), 4);
        is(option("either 10 any in above 10 recall 1").does(0, 0, 0), 3);
    }

    @Says("(at a NODE where it is OUT, at STEP N: 0; where it is IN: by PLAIN)")
    static void standsAtBounds() {
        OptionBench x = option("put 50 once out above 12 rebate 1");
        fraction(part -> x.stands(0, 1, 1, part), 0, 1);
        fraction(part -> x.stands(0, 2, 0, part), 0, 1);
        fraction(part -> x.stands(0, 2, 2, part), 0, 1);
        fraction(part -> x.stands(0, 1, 0, part), -1, 1);
        fraction(part -> x.stands(0, 0, 0, part), -41, 4);
        // By VALUE it would be 2 by 4 at 8: 6 is IN, 10 not.
        OptionBench y = option("call 0 in below 8");
        fraction(part -> y.stands(0, 1, 0, part), 1, 1);
        fraction(part -> y.stands(0, 1, 1, part), 0, 1);
        fraction(part -> y.stands(0, 0, 0, part), -2, 1);
        fraction(part -> of("option a call 0;").stands(0, 0, 0, part), 0, 1);
        OptionBench z = of("step 1 times 12;option a put 150;option b put 150 in above 0;");
        for (int j = 0; j <= 12; j++) {
            int node = j;
            fraction(part -> z.stands(0, 12, node, part), 0, 1);
            fraction(part -> z.stands(1, 12, node, part), 0, 1);
        }
        fraction(part -> z.stands(1, 11, 11, part), -1, 1);
    }

    @Says("(from IN on: where PLAIN would)")
    static void planFromInOn() {
        // IN at 8: EXERCISED at once there, though it DOES 3; by up and down it never comes IN.
        OptionBench x = option("put 50 any in below 8");
        is(x.does(0, 1, 0), 3);
        is(x.ways(0, 2, 0), 0);
        is(x.ways(0, 2, 1), 1);
        fraction(part -> x.ending(0, 1, 0, part), 1, 2);
        fraction(part -> x.ending(0, 2, 2, part), 1, 2);
        fraction(part -> x.ending(0, 2, 0, part), 0, 1);
        // IN at 12, EXERCISED behind it at 10, which is not TOUCHED.
        OptionBench y = option("digit 10 7 in above 12");
        fraction(part -> y.ending(0, 2, 0, part), 1, 2);
        fraction(part -> y.ending(0, 2, 2, part), 1, 2);
        // IN at the start, and RECALLED there.
        OptionBench z = option("either 10 any in above 10 recall 1");
        fraction(part -> z.ending(0, 0, 3, part), 1, 1);
        is(z.ways(0, 1, 0), 0);
        // IN at STEP N, and EXERCISED there.
        OptionBench w = option("call 8 in above 14");
        fraction(part -> w.ending(0, 2, 0, part), 1, 4);
        fraction(part -> w.ending(0, 2, 2, part), 3, 4);
    }

    @Says("it ENDS where it is EXERCISED, RECALLED, OUT, or at STEP N")
    static void whereItEnds() {
        is(option("put 50 any").ways(0, 1, 1), 0);
        is(option("either 10 recall 1").ways(0, 1, 1), 0);
        is(option("call 5 out above 10").ways(0, 1, 1), 0);
        is(option("call 5 in above 10").ways(0, 1, 1), 1);
        is(option("call 5 in above 99").ways(0, 2, 1), 2);
        is(option("call 5").ways(0, 2, 1), 2);
        // Asked again, and by another OPTION ahead of it, it is the same.
        OptionBench x = of(LATTICE + "option a call 5 in above 10;option b call 5 in above 12;");
        for (int round = 0; round < 3; round++) {
            is(x.ways(0, 0, 0), 1);
            is(x.ways(0, 2, 1), 2);
            is(x.ways(1, 2, 1), 2);
            fraction(part -> x.ending(1, 2, 0, part), 1, 2);
            fraction(part -> x.life(0, part), 2, 1);
        }
    }

    @Says("Fractions are told by two numbers: 0 above, 1 below (above 0), in least terms (0 by 1, if it is 0)")
    static void fractionsInLeastTerms() {
        OptionBench x = of(LATTICE + "option a call 8;option b put 11;option c call 99;");
        fraction(part -> x.value(0, 0, 0, part), 5, 2);
        fraction(part -> x.value(0, 2, 2, part), 6, 1);
        fraction(part -> x.stands(1, 0, 0, part), -5, 8);
        fraction(part -> x.stands(1, 1, 0, part), -1, 1);
        fraction(part -> x.value(2, 0, 0, part), 0, 1);
        fraction(part -> x.stands(2, 0, 0, part), 0, 1);
        is(x.own(0, -1), 0);
        fraction(part -> x.book(0, 0, part), -5, 2);
        missing(() -> x.value(0, 0, 0, 2));
        missing(() -> x.value(0, 0, 0, -1));
        // The greatest number below that there can be: 9 to the power 12.
        OptionBench y = of("stock 50 9;step 1 times 12;option a digit 146 1;");
        fraction(part -> y.value(0, 0, 0, part), 1, 282429536481L);
    }

    // ---- promise 6 ----

    @Says("NONE for another what")
    static void countOfAnother() {
        OptionBench x = of(FOUR);
        for (int what : new int[] {-1, 7, 8, LOW, FAR}) {
            is(x.count(what), NONE);
        }
        is(x.count(0), 2);
        is(x.count(6), 0);
    }

    @Says("4 all cash, 5 acts that can be undone, 6 bytes of the tape")
    static void countAtBounds() {
        OptionBench x = of("stock 999 9;cash 99;" + "step 1;cash 99;".repeat(12));
        is(x.count(0), 12);
        is(x.count(4), 13 * 99);
        for (int i = 0; i < 10; i++) {
            is(x.count(5), Math.min(i, 8));
            is(x.move(100 + i), 0);
        }
        for (int i = 0; i < 28; i++) {
            is(x.count(6), Math.min(20 * i, 540));
            x.feed(0, 0, 0, 0, 0);
        }
        is(x.count(6), 540);
    }

    // ---- promise 7 ----

    @Says("FALL of STEP t (1 on; 0), cash at it (0 on; 1). NONE: no such ones")
    static void stepOutside() {
        OptionBench x = of("stock 50 9;cash 5;step 3;step 4;cash 6;");
        is(x.step(0, 0), NONE);
        is(x.step(1, 0), 3);
        is(x.step(2, 0), 4);
        is(x.step(3, 0), NONE);
        is(x.step(-1, 0), NONE);
        is(x.step(-1, 1), NONE);
        is(x.step(0, 1), 5);
        is(x.step(1, 1), 0);
        is(x.step(2, 1), 6);
        is(x.step(3, 1), NONE);
        for (int far : new int[] {LOW, FAR, -1, 2}) {
            is(x.step(1, far), NONE);
        }
        for (int far : new int[] {LOW, FAR, 12, 13}) {
            is(x.step(far, 0), NONE);
            is(x.step(far, 1), NONE);
        }
        OptionBench y = of("step 1 times 12;cash 4;");
        is(y.step(12, 0), 1);
        is(y.step(12, 1), 4);
        is(y.step(13, 0), NONE);
        is(y.step(13, 1), NONE);
        is(of("").step(0, 0), NONE);
        is(of("").step(0, 1), 0);
    }

    // ---- promise 8 ----

    @Says("2 N, the second K, the other OPTION (NONE)")
    static void optionWithoutASecond() {
        OptionBench x = of("option a call 5;option b put 5;option c either 5;option d over a 5;");
        is(x.option(0, 2), NONE);
        is(x.option(1, 2), NONE);
        is(x.option(2, 2), NONE);
        is(x.option(3, 2), 0);
        OptionBench y = of("option a digit 5 9;option b spread 5 9;option c over b 0;");
        is(y.option(0, 2), 9);
        is(y.option(1, 2), 9);
        is(y.option(2, 2), 1);
    }

    @Says("3 the first STEP at which it MAY be exercised")
    static void optionFirstStep() {
        is(option("call 5 any").option(0, 3), 0);
        is(option("call 5 from 1").option(0, 3), 1);
        is(option("call 5 from 2").option(0, 3), 2);
        is(option("call 5 from 3").option(0, 3), 2);
        is(option("call 5 from 12").option(0, 3), 2);
        is(option("call 5").option(0, 3), 2);
        is(of("option a call 5;").option(0, 3), 0);
        // By from, the STEPS told behind it count, too.
        is(of("option a call 5 from 1;step 1 times 3;").option(0, 3), 1);
        is(of("option a call 5;step 1 times 3;").option(0, 3), 3);
    }

    @Says("4 BARRIER (0 none, 1 out, 2 in), 5 1 above, 0 below (NONE), 6 its N (NONE), 7 rebate (0 without)")
    static void optionBarrier() {
        int[][] due = {{0, NONE, NONE, 0}, {1, 1, 0, 0}, {1, 0, 999, 7}, {2, 0, 5, 0}};
        OptionBench x = of("option a call 5;option b call 5 out above 0;option c call 5 out below 999 rebate 7;"
            + "option d call 5 in below 5;");
        for (int k = 0; k < 4; k++) {
            for (int what = 4; what <= 7; what++) {
                is(x.option(k, what), due[k][what - 4]);
            }
        }
    }

    @Says("9 N of recall (NONE). HIDDEN: no such ones")
    static void optionOutside() {
        OptionBench x = of(FOUR);
        is(x.option(0, 9), NONE);
        for (int other : new int[] {-1, 10, LOW, FAR}) {
            is(x.option(0, other), HIDDEN);
        }
        for (int other : new int[] {-1, 4, LOW, FAR}) {
            is(x.option(other, 0), HIDDEN);
            is(x.option(other, 8), HIDDEN);
        }
        is(x.option(3, 0), 4);
        is(of("option a call 5;").option(1, 0), HIDDEN);
        is(of("").option(0, 0), HIDDEN);
    }

    @Says("`HIDDEN = -1000000`: What is told for none where NONE could be so")
    static void hiddenIsNotNone() {
        is(HIDDEN, -1000000);
        is(NONE, -1);
        OptionBench x = of(FOUR);
        is(x.own(0, -1), 0);
        is(x.option(0, 8), NONE);
        is(x.own(0, 5), NONE);
        is(x.own(4, 5), HIDDEN);
    }

    // ---- promise 9 ----

    @Says("0 PRICE, 1 that behind its cash, 2 STRIPPED. NONE: no such ones")
    static void priceOutside() {
        OptionBench x = of("stock 10 4;cash 7;step 2;step 2;cash 9;");
        is(x.price(0, 0, 1), 19);
        is(x.price(2, 2, 1), 14);
        int[][] others = {{-1, 0, 0}, {3, 0, 0}, {0, -1, 0}, {0, 1, 0}, {2, 3, 0}, {0, 0, -1}, {0, 0, 3}, {LOW, 0, 0},
            {FAR, 0, 0}, {0, LOW, 0}, {0, FAR, 0}, {FAR, FAR, 0}, {LOW, LOW, 0}, {0, 0, LOW}, {0, 0, FAR},
            {65535, 65535, 0}};
        for (int[] o : others) {
            is(x.price(o[0], o[1], o[2]), NONE);
        }
    }

    // ---- promises 10 to 13, 15 ----

    @Says("What an OPTION would PAY at a NODE, whether it MAY be exercised or not")
    static void paysWhereItMayNot() {
        is(option("put 50 once").pays(0, 0, 0, 0), 40);
        is(option("put 50 from 2").pays(0, 1, 0, 0), 42);
        // Whatever is TOUCHED there.
        is(option("put 50 out below 10 rebate 3").pays(0, 0, 0, 0), 40);
        is(option("put 50 in below 6").pays(0, 0, 0, 0), 40);
    }

    @Says("NoSuchElementException: no such ones (so below)")
    static void paysOutside() {
        refusesOthers(of(FOUR)::pays);
        missing(() -> of("").pays(0, 0, 0, 0));
    }

    @Says("no such ones (so below) .. VALUE.")
    static void valueOutside() {
        refusesOthers(of(FOUR)::value);
        missing(() -> of("").value(0, 0, 0, 0));
    }

    @Says("no such ones (so below) .. PLAIN.")
    static void plainOutside() {
        refusesOthers(of(FOUR)::plain);
        missing(() -> of("").plain(0, 0, 0, 0));
    }

    @Says("no such ones (so below) .. HELD (whatever it DOES there)")
    static void heldOutside() {
        refusesOthers(of(FOUR)::held);
        missing(() -> of("").held(0, 0, 0, 0));
    }

    @Says("HELD (whatever it DOES there)")
    static void heldWhateverItDoes() {
        is(option("put 50 any").held(0, 1, 0, 0), 42);
        is(option("put 50 out below 8").held(0, 1, 0, 0), 20);
        is(option("either 10 recall 1").held(0, 0, 0, 0), 2);
        is(option("put 50 in below 8").held(0, 1, 0, 0), 22);
        is(option("put 50 in below 6").held(0, 1, 1, 0), 0);
    }

    @Says("no such ones (so below) .. STANDS.")
    static void standsOutside() {
        refusesOthers(of(FOUR)::stands);
        missing(() -> of("").stands(0, 0, 0, 0));
    }

    // ---- promise 14 ----

    @Says("What it DOES; NONE: no such ones")
    static void doesOutside() {
        OptionBench x = of(FOUR);
        int[][] others = {{-1, 0, 0}, {4, 0, 0}, {0, -1, 0}, {0, 3, 0}, {0, 0, -1}, {0, 0, 1}, {0, 2, 3}, {LOW, 0, 0},
            {FAR, 0, 0}, {0, LOW, 0}, {0, FAR, FAR}, {0, 0, LOW}, {0, 0, FAR}};
        for (int[] o : others) {
            is(x.does(o[0], o[1], o[2]), NONE);
        }
        is(x.does(3, 2, 2), 1);
        is(of("").does(0, 0, 0), NONE);
    }

    // ---- promise 16 ----

    @Says("At STEP t NODES at which an OPTION DOES 1, as bits; NONE: no such ones")
    static void frontierAtBounds() {
        OptionBench x = of("step 1 times 12;option a put 999 any;option b put 90;option c call 999;option d put 999 any in above 0;");
        is(x.frontier(0, 0), 1);
        is(x.frontier(0, 12), 8191);
        is(x.frontier(1, 12), 1);
        is(x.frontier(2, 12), 0);
        is(x.frontier(3, 12), 0);
        for (int other : new int[] {-1, 13, LOW, FAR}) {
            is(x.frontier(0, other), NONE);
        }
        for (int other : new int[] {-1, 4, LOW, FAR}) {
            is(x.frontier(other, 0), NONE);
        }
        is(of("").frontier(0, 0), NONE);
    }

    // ---- promise 17 ----

    @Says("Paths from the start to a NODE on which, BY PLAN, it did not END ahead of it; NONE: no such ones")
    static void waysAtBounds() {
        OptionBench x = of("step 1 times 12;option a call 999;option b put 999 any;option c put 999 from 1;");
        is(x.ways(0, 0, 0), 1);
        is(x.ways(0, 12, 6), 924);
        is(x.ways(0, 12, 0), 1);
        is(x.ways(0, 12, 12), 1);
        // It ENDS at the NODE itself, not ahead of it.
        is(x.ways(1, 0, 0), 1);
        is(x.ways(1, 1, 0), 0);
        is(x.ways(2, 1, 1), 1);
        is(x.ways(2, 2, 1), 0);
        int[][] others = {{-1, 0, 0}, {3, 0, 0}, {0, -1, 0}, {0, 13, 0}, {0, 0, -1}, {0, 0, 1}, {0, 12, 13}, {LOW, 0, 0},
            {FAR, 0, 0}, {0, FAR, FAR}, {0, 0, LOW}};
        for (int[] o : others) {
            is(x.ways(o[0], o[1], o[2]), NONE);
        }
        is(of("").ways(0, 0, 0), NONE);
    }

    // ---- promise 18 ----

    @Says("what 0 EXERCISED, 1 OUT, 2 none of these (0 ahead of STEP N), 3 RECALLED")
    static void endingNoneOfThese() {
        OptionBench x = option("call 99");
        fraction(part -> x.ending(0, 0, 2, part), 0, 1);
        fraction(part -> x.ending(0, 1, 2, part), 0, 1);
        fraction(part -> x.ending(0, 2, 2, part), 1, 1);
        OptionBench y = option("call 14 out below 8");
        fraction(part -> y.ending(0, 1, 1, part), 1, 2);
        fraction(part -> y.ending(0, 2, 2, part), 1, 2);
        fraction(part -> y.ending(0, 2, 1, part), 0, 1);
        fraction(part -> of("option a call 99;").ending(0, 0, 0, part), 1, 1);
        fraction(part -> of("option a call 100;").ending(0, 0, 2, part), 1, 1);
    }

    @Says("no such ones (so below) .. How likely it ENDS at STEP t BY PLAN, by weights")
    static void endingOutside() {
        OptionBench x = of(FOUR);
        int[][] others = {{-1, 0, 0, 0}, {4, 0, 0, 0}, {0, -1, 0, 0}, {0, 3, 0, 0}, {0, 0, -1, 0}, {0, 0, 4, 0},
            {0, 0, 0, -1}, {0, 0, 0, 2}, {LOW, 0, 0, 0}, {0, FAR, 0, 0}, {0, LOW, 0, 0}, {0, 0, FAR, 0}, {0, 0, LOW, 0},
            {0, 0, 0, FAR}};
        for (int[] o : others) {
            missing(() -> x.ending(o[0], o[1], o[2], o[3]));
        }
        is(x.ending(3, 2, 3, 1), 1);
        missing(() -> of("").ending(0, 0, 0, 0));
    }

    // ---- promise 19 ----

    @Says("The STEP at which it ENDS BY PLAN, as is expected by weights")
    static void lifeAtBounds() {
        fraction(part -> option("put 50 any").life(0, part), 0, 1);
        fraction(part -> option("put 50").life(0, part), 2, 1);
        fraction(part -> option("put 50 any in below 8").life(0, part), 3, 2);
        fraction(part -> of("option a put 50;").life(0, part), 0, 1);
        OptionBench x = of("stock 50 9;step 1 times 12;option a put 999;option b call 50 out above 58;");
        fraction(part -> x.life(0, part), 12, 1);
        missing(() -> x.life(2, 0));
        missing(() -> x.life(-1, 0));
        missing(() -> x.life(LOW, 0));
        missing(() -> x.life(FAR, 0));
        missing(() -> x.life(0, 2));
        missing(() -> x.life(0, -1));
        missing(() -> of("").life(0, 0));
    }

    public static void main(String[] args) throws IllegalAccessException, IOException {
        runAll(BoundaryNodeTest.class);
    }
}
