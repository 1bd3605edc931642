import java.io.IOException;

/** Ordinary inputs of the sentences that name no boundary case: one small BENCH, worked out by hand. */
public final class OrdinaryTest extends Checks {
    /**
     * STRIPPED 20; 18, 23; 15, 20, 25. PRICE 25; 22, 27; 19, 24, 29. UP is weighed 2 by 5, then 3 by 5.
     * call 20 at the end: 0, 4, 9; HELD 12/5, 7; 106/25. put 25 at the end: 6, 1, 0; HELD 3, 2/5; 49/25.
     */
    private static final String UNLIKE = "stock 20 5;cash 1;step 2;step 3;cash 4;";

    private static OptionBench option(String told) {
        return of(UNLIKE + "option a " + told + ";");
    }

    // ---- Terms: what a BENCH is ----

    @Says("{ LINE ; }. LINE: 'stock' N W (the price at first without any cash that comes, 0 to 999; WIDTH, 2 to 9;")
    static void stockTellsPriceAndWidth() {
        OptionBench x = of("stock 20 5;cash 1;");
        is(x.count(3), 20);
        is(x.count(2), 5);
        is(x.price(0, 0, 2), 20);
        is(x.price(0, 0, 0), 21);
    }

    @Says("'step' N [ 'times' M ] (FALL, 1 to WIDTH less 1; M such STEPS")
    static void timesTellsLikeSteps() {
        OptionBench x = of("stock 20 5;step 2;step 3 times 3;step 4;");
        int[] due = {2, 3, 3, 3, 4};
        is(x.count(0), due.length);
        for (int t = 1; t <= due.length; t++) {
            is(x.step(t, 0), due[t - 1]);
        }
    }

    @Says("'cash' N (1 to 99; once at each STEP that is come to, the start too)")
    static void cashBelongsToTheStepThatIsComeTo() {
        OptionBench x = of("cash 4;step 1;step 1;cash 6;step 1;");
        int[] due = {4, 0, 6, 0};
        for (int t = 0; t < due.length; t++) {
            is(x.step(t, 1), due[t]);
        }
        is(x.count(4), 10);
    }

    @Says("KIND: 'call' K | 'put' K | 'digit' K N | 'spread' K K | 'either' K | 'over' NAME K")
    static void kindsAsTold() {
        OptionBench x = of("option a call 11;option b put 12;option c digit 13 3;option d spread 14 17;");
        int[][] due = {{0, 11, NONE}, {1, 12, NONE}, {2, 13, 3}, {3, 14, 17}};
        for (int k = 0; k < due.length; k++) {
            for (int what = 0; what < 3; what++) {
                is(x.option(k, what), due[k][what]);
            }
        }
        OptionBench y = of("option a either 15;option b over a 16;");
        is(y.option(0, 0), 4);
        is(y.option(0, 1), 15);
        is(y.option(1, 0), 5);
        is(y.option(1, 1), 16);
        is(y.option(1, 2), 0);
    }

    @Says("WHEN: 'once' | 'any' | 'from' T")
    static void whenAsTold() {
        OptionBench x = of("step 1 times 4;option a call 9 once;option b call 9 any;option c call 9 from 3;option d call 9;");
        int[] due = {4, 0, 3, 4};
        for (int k = 0; k < due.length; k++) {
            is(x.option(k, 3), due[k]);
        }
    }

    @Says("BARRIER: 'out' SIDE N [ 'rebate' N ] | 'in' SIDE N (SIDE: 'above' | 'below'")
    static void barriersAsTold() {
        OptionBench x = of("option a call 9 out above 30 rebate 7;option b put 9 out below 31;option c put 9 in above 32;"
            + "option d call 9 in below 33 recall 8;");
        int[][] due = {{1, 1, 30, 7, 0, NONE}, {1, 0, 31, 0, 0, NONE}, {2, 1, 32, 0, 0, NONE}, {2, 0, 33, 0, 0, 8}};
        for (int k = 0; k < due.length; k++) {
            for (int what = 4; what <= 9; what++) {
                is(x.option(k, what), due[k][what - 4]);
            }
        }
    }

    // ---- Terms: steps, nodes and options ----

    @Says("From NODE j of STEP t one goes to j (down: STRIPPED is less by the FALL of the next STEP) or to j and 1 of STEP t "
        + "and 1 (up).")
    static void downAndUpFromANode() {
        OptionBench x = of(UNLIKE);
        for (int t = 0; t < 2; t++) {
            for (int j = 0; j <= t; j++) {
                is(x.price(t, j, 2) - x.price(t + 1, j, 2), x.step(t + 1, 0));
                is(x.price(t + 1, j + 1, 2) - x.price(t, j, 2), 5 - x.step(t + 1, 0));
            }
        }
        is(x.price(2, 1, 2), 20);
    }

    @Says("An OPTION exercised at a NODE PAYS: call: PRICE less K; put: K less PRICE;")
    static void callsAndPutsPay() {
        OptionBench x = of(UNLIKE + "option a call 20;option b put 25;");
        int[][] due = {{5, 0}, {2, 3}, {7, 0}, {0, 6}, {4, 1}, {9, 0}};
        int node = 0;
        for (int t = 0; t <= 2; t++) {
            for (int j = 0; j <= t; j++) {
                is(x.pays(0, t, j, 0), due[node][0]);
                is(x.pays(1, t, j, 0), due[node][1]);
                node++;
            }
        }
    }

    @Says("It MAY be exercised at STEP N, by 'any' at each, by 'from' at T and behind it.")
    static void mayFromAStepOn() {
        // At each NODE of this BENCH what is PAID is no less than what is kept.
        String bench = "stock 10 4;step 2 times 3;option a call 0 ";
        String[] when = {"once", "any", "from 0", "from 1", "from 2", "from 3"};
        int[] first = {3, 0, 0, 1, 2, 3};
        for (int i = 0; i < when.length; i++) {
            OptionBench x = of(bench + when[i] + ";");
            for (int t = 0; t <= 3; t++) {
                is(x.frontier(0, t), t >= first[i] ? (1 << t + 1) - 1 : 0);
            }
        }
    }

    @Says("HELD (0 at STEP N): UP's weight times VALUE of up, and DOWN's times VALUE of down.")
    static void heldByWeights() {
        OptionBench x = option("call 20");
        fraction(part -> x.held(0, 1, 0, part), 12, 5);
        fraction(part -> x.held(0, 1, 1, part), 7, 1);
        fraction(part -> x.held(0, 0, 0, part), 106, 25);
        // Of one that MAY be exercised at each STEP: PAYS 2 and 7 behind the start, or what is more there.
        OptionBench y = option("call 20 any");
        fraction(part -> y.held(0, 0, 0, part), 106, 25);
        fraction(part -> y.value(0, 0, 0, part), 5, 1);
    }

    @Says("VALUE, where it was not TOUCHED ahead: TOUCHED, out: its rebate; TOUCHED, in: PLAIN; by in else HELD;")
    static void valueByABarrier() {
        OptionBench out = option("call 20 out above 27 rebate 2");
        fraction(part -> out.value(0, 2, 2, part), 2, 1);
        fraction(part -> out.value(0, 2, 1, part), 4, 1);
        fraction(part -> out.value(0, 1, 1, part), 2, 1);
        fraction(part -> out.value(0, 1, 0, part), 12, 5);
        fraction(part -> out.value(0, 0, 0, part), 56, 25);
        OptionBench in = option("call 20 in above 27");
        fraction(part -> in.value(0, 2, 1, part), 0, 1);
        fraction(part -> in.value(0, 2, 2, part), 9, 1);
        fraction(part -> in.value(0, 1, 1, part), 7, 1);
        fraction(part -> in.value(0, 1, 0, part), 0, 1);
        fraction(part -> in.value(0, 0, 0, part), 14, 5);
    }

    @Says("; else KEPT, or what it PAYS, if that is no less than KEPT, is above 0, and it MAY.")
    static void valueIsKeptOrPaid() {
        OptionBench x = option("put 25 any");
        fraction(part -> x.value(0, 1, 0, part), 3, 1);
        is(x.does(0, 1, 0), 1);
        fraction(part -> x.value(0, 1, 1, part), 2, 5);
        is(x.does(0, 1, 1), 0);
        fraction(part -> x.value(0, 0, 0, part), 49, 25);
        is(x.does(0, 0, 0), 0);
        // One step later it would PAY as much, but it may not be taken at once.
        OptionBench y = option("call 20");
        fraction(part -> y.value(0, 0, 0, part), 106, 25);
        is(y.does(0, 0, 0), 0);
    }

    @Says("KEPT: HELD, or, with recall, what it PAYS (whether it MAY or not) and N, if that is less than HELD.")
    static void keptByARecall() {
        // At the start it PAYS 0 and would be HELD for 49 by 25.
        OptionBench x = option("put 25 recall 1");
        fraction(part -> x.value(0, 0, 0, part), 1, 1);
        fraction(part -> x.held(0, 0, 0, part), 49, 25);
        is(x.does(0, 0, 0), 4);
        OptionBench y = option("put 25 recall 2");
        fraction(part -> y.value(0, 0, 0, part), 49, 25);
        is(y.does(0, 0, 0), 0);
    }

    @Says("PLAIN: VALUE of the OPTION without its BARRIER.")
    static void plainWithoutItsBarrier() {
        OptionBench plain = option("put 25 any recall 1");
        OptionBench out = option("put 25 any out below 22 rebate 2 recall 1");
        OptionBench in = option("put 25 any in above 27 recall 1");
        for (int t = 0; t <= 2; t++) {
            for (int j = 0; j <= t; j++) {
                for (int part = 0; part < 2; part++) {
                    long due = plain.value(0, t, j, part);
                    is(plain.plain(0, t, j, part), due);
                    is(out.plain(0, t, j, part), due);
                    is(in.plain(0, t, j, part), due);
                }
            }
        }
    }

    @Says("STANDS: VALUE of up less VALUE of down, by WIDTH (at a NODE")
    static void standsByTheNextValues() {
        OptionBench x = option("put 25 any");
        fraction(part -> x.stands(0, 0, 0, part), -13, 25);
        fraction(part -> x.stands(0, 1, 0, part), -1, 1);
        fraction(part -> x.stands(0, 1, 1, part), -1, 5);
        OptionBench y = option("call 20");
        fraction(part -> y.stands(0, 0, 0, part), 23, 25);
        fraction(part -> y.stands(0, 1, 0, part), 4, 5);
        fraction(part -> y.stands(0, 1, 1, part), 1, 1);
    }

    @Says("BY PLAN: it is EXERCISED, RECALLED where it DOES 1, 4 (from IN on: where PLAIN would), else HELD; it ENDS where it is "
        + "EXERCISED, RECALLED, OUT, or at STEP N.")
    static void byPlan() {
        // EXERCISED at 22; from 27 on to 24, where it is EXERCISED, or to 29.
        OptionBench x = option("put 25 any");
        int[][] ways = {{1}, {1, 1}, {0, 1, 1}};
        for (int t = 0; t <= 2; t++) {
            for (int j = 0; j <= t; j++) {
                is(x.ways(0, t, j), ways[t][j]);
            }
        }
        fraction(part -> x.ending(0, 0, 0, part), 0, 1);
        fraction(part -> x.ending(0, 1, 0, part), 3, 5);
        fraction(part -> x.ending(0, 2, 0, part), 4, 25);
        fraction(part -> x.ending(0, 2, 2, part), 6, 25);
        fraction(part -> x.life(0, part), 7, 5);
    }

    @Says("A WRITER has at first VALUE at the start, holds at each NODE as much stock as STANDS tells (from IN on by PLAIN), gains "
        + "that times what STRIPPED rises or falls, and gives what the OPTION PAYS, where its owner exercises it, or its rebate, "
        + "where it goes OUT, or what it would PAY and N, where it is RECALLED, and not exercised by its owner (it ENDS there); "
        + "GAIN: what is left.")
    static void writerAlongEachPath() {
        // 49/25 at first; up 3 with -13/25: 2/5, down 2: 3. Then -1/5 (up 2, down 3), -1 (up 2, down 3).
        OptionBench x = option("put 25 any");
        int[] never = {6, 1, 1, 0};
        int[] atTheEnd = {0, 0, 0, 0};
        int[] atOne = {0, 1, 0, 0};
        for (int path = 0; path < 4; path++) {
            int way = path;
            fraction(part -> x.gain(0, way, NONE, part), never[way], 1);
            fraction(part -> x.gain(0, way, 2, part), atTheEnd[way], 1);
            fraction(part -> x.gain(0, way, 1, part), atOne[way], 1);
        }
        // 56/25 at first with STANDS (2 - 12/5) by 5: up 3 to 2, the rebate; down 2 to 12/5, then 4/5.
        OptionBench y = option("call 20 out above 27 rebate 2");
        int[] outOrNever = {0, 0, 4, 0};
        for (int path = 0; path < 4; path++) {
            int way = path;
            fraction(part -> y.gain(0, way, NONE, part), outOrNever[way], 1);
            fraction(part -> y.gain(0, way, 2, part), 0, 1);
        }
        // RECALLED at the start for 1, which is all that he has.
        fraction(part -> option("put 25 recall 1").gain(0, 1, 2, part), 0, 1);
    }

    @Says("Fractions are told by two numbers: 0 above, 1 below (above 0), in least terms (0 by 1, if it is 0).")
    static void fractionsInLeastTerms() {
        // 10/25 and -5/25 are told as 2/5 and -1/5.
        OptionBench x = option("put 25 any");
        is(x.value(0, 1, 1, 0), 2);
        is(x.value(0, 1, 1, 1), 5);
        is(x.stands(0, 1, 1, 0), -1);
        is(x.stands(0, 1, 1, 1), 5);
        is(x.value(0, 2, 2, 0), 0);
        is(x.value(0, 2, 2, 1), 1);
    }

    // ---- promises ----

    @Says("0 STEPS, 1 OPTIONS, 2 WIDTH, 3 the price at first STRIPPED, 4 all cash, 5 acts that can be undone, 6 bytes of the tape.")
    static void countOfEach() {
        OptionBench x = of(UNLIKE + "option a call 20;option b put 25;option c digit 9 9;");
        x.own(0, 1);
        x.own(1, 1);
        x.own(2, 1);
        x.restrike(0, 22);
        feed(x, "step 1;");
        int[] due = {2, 3, 5, 20, 5, 4, 7};
        for (int what = 0; what < due.length; what++) {
            is(x.count(what), due[what]);
        }
    }

    @Says("At a NODE: 0 PRICE, 1 that behind its cash, 2 STRIPPED.")
    static void pricesOfEachNode() {
        OptionBench x = of(UNLIKE);
        int[][] due = {{25, 24, 20}, {22, 22, 18}, {27, 27, 23}, {19, 15, 15}, {24, 20, 20}, {29, 25, 25}};
        int node = 0;
        for (int t = 0; t <= 2; t++) {
            for (int j = 0; j <= t; j++) {
                for (int what = 0; what < 3; what++) {
                    is(x.price(t, j, what), due[node][what]);
                }
                node++;
            }
        }
    }

    @Says("Of an OPTION: 0 its KIND (0 call, 1 put, 2 digit, 3 spread, 4 either, 5 over), 1 K, 2 N, the second K, the other OPTION "
        + "(NONE), 3 the first STEP at which it MAY be exercised, 4 BARRIER (0 none, 1 out, 2 in), 5 1 above, 0 below (NONE), 6 "
        + "its N (NONE), 7 rebate (0 without), 8 how many are in the BOOK, 9 N of recall (NONE).")
    static void optionWithAllThatIsTold() {
        OptionBench x = of(UNLIKE + "option z call 7;option a over z 3 from 1 out below 12 rebate 5 recall 6;");
        x.own(1, -8);
        int[] due = {5, 3, 0, 1, 1, 0, 12, 5, -8, 6};
        for (int what = 0; what < due.length; what++) {
            is(x.option(1, what), due[what]);
        }
    }

    @Says("GAIN along a path (bit t less 1: up in STEP t), its owner exercising it at STEP e, if it MAY be then, PAYS more than 0, "
        + "is not OUT by then, not RECALLED ahead, and (in) came IN by then (else never, also for e NONE).")
    static void gainOfOneThatComesIn() {
        // 14/5 at first with STANDS 7/5: 0 behind down; 7 at 27, where it comes IN, then 9 at 29, 4 at 24.
        OptionBench x = option("call 20 any in above 27");
        int[] never = {0, 4, 0, 9};
        int[] atTheStart = {0, 4, 0, 9};
        for (int path = 0; path < 4; path++) {
            int way = path;
            fraction(part -> x.gain(0, way, NONE, part), never[way], 1);
            fraction(part -> x.gain(0, way, 0, part), atTheStart[way], 1);
            fraction(part -> x.gain(0, way, 1, part), 0, 1);
            fraction(part -> x.gain(0, way, 2, part), 0, 1);
        }
    }

    @Says("Of all paths the one with the greatest GAIN, e for all alike; of like ones the least number;")
    static void richestOfThePaths() {
        OptionBench x = option("put 25 any");
        is(x.richest(0, NONE), 0);
        is(x.richest(0, 1), 1);
        is(x.richest(0, 2), 0);
        OptionBench y = option("call 20 out above 27 rebate 2");
        is(y.richest(0, NONE), 2);
        is(y.richest(0, 2), 0);
    }

    @Says("What an OPTION is worth at the start, if its owner exercises it at the first NODE at which it MAY, PAYS more than 0, and "
        + "PRICE is n (0 to 2999) at least (upper 1), at most (0), or at STEP N, if it PAYS (by in: from IN on);")
    static void worthByAMark() {
        OptionBench x = option("call 20 any");
        fraction(part -> x.worthBy(0, 25, 1, part), 5, 1);
        fraction(part -> x.worthBy(0, 26, 1, part), 106, 25);
        fraction(part -> x.worthBy(0, 22, 0, part), 4, 1);
        fraction(part -> x.worthBy(0, 21, 0, part), 106, 25);
        fraction(part -> x.worthBy(0, 25, 0, part), 5, 1);
        is(x.bestBy(0, 1), 0);
        is(x.bestBy(0, 0), 25);
    }

    @Says("How likely PRICE is n (0 to 2999) at least (upper 1), at most (0) at some NODE one comes to.")
    static void reachOfAMark() {
        OptionBench x = of(UNLIKE);
        fraction(part -> x.reach(27, 1, part), 2, 5);
        fraction(part -> x.reach(29, 1, part), 6, 25);
        fraction(part -> x.reach(24, 0, part), 19, 25);
        fraction(part -> x.reach(22, 0, part), 3, 5);
        fraction(part -> x.reach(19, 0, part), 6, 25);
    }

    @Says("At a NODE VALUES of all in the BOOK, together. .. What STANDS for all of it there (0), and what is left beside that by "
        + "STRIPPED (1: VALUES less STANDS times STRIPPED). .. At STEP N the NODE at which the BOOK is worth least (0), most (1)")
    static void bookOfTwo() {
        // Twice 106/25 less 49/25; twice 23/25 and 13/25, of 20 each; at the end -6, 7, 18.
        OptionBench x = of(UNLIKE + "option a call 20;option b put 25 any;");
        is(x.own(0, 2), 0);
        is(x.own(1, -1), 0);
        fraction(part -> x.book(0, 0, part), 163, 25);
        fraction(part -> x.book(1, 0, part), 9, 5);
        fraction(part -> x.cover(0, 0, 0, part), 59, 25);
        fraction(part -> x.cover(0, 0, 1, part), 163 - 59 * 20, 25);
        is(x.extreme(0), 0);
        is(x.extreme(1), 2);
    }

    @Says("Of a call the greatest, of a put the least K (0 to 999) by which VALUE at the start is v at least;")
    static void strikesByWorth() {
        // A call is worth 5 by 19, 106/25 by 20, 87/25 by 21; a put 24/25 by 23, 30/25 by 24, 49/25 by 25, 68/25 by 26.
        OptionBench x = of(UNLIKE + "option a call 20;option b put 25;");
        is(x.strike(0, 4), 20);
        is(x.strike(0, 5), 19);
        is(x.strike(1, 1), 24);
        is(x.strike(1, 2), 26);
    }

    @Says("VALUE at the start less VALUE of the same OPTION with 'once'.")
    static void worthOfBeingEarly() {
        OptionBench x = of(UNLIKE + "option a call 20 any;option b put 25 any;option c call 20 from 1;");
        fraction(part -> x.early(0, part), 19, 25);
        fraction(part -> x.early(1, part), 0, 1);
        fraction(part -> x.early(2, part), 0, 1);
    }

    public static void main(String[] args) throws IllegalAccessException, IOException {
        runAll(OrdinaryTest.class);
    }
}
