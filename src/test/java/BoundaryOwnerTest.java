import java.io.IOException;

/** The boundary cases of the WRITER and of promises 20 to 26: a test for each sentence. */
public final class BoundaryOwnerTest extends Checks {
    private static OptionBench option(String told) {
        return of(LATTICE + "option a " + told + ";");
    }

    private static OptionBench wide(String told) {
        return of(WIDE + "option a " + told + ";");
    }

    private static void gains(OptionBench x, int path, int e, long above, long below) {
        fraction(part -> x.gain(0, path, e, part), above, below);
    }

    // ---- the WRITER ----

    @Says("A WRITER has at first VALUE at the start")
    static void writerAtTheStart() {
        gains(of("option a call 70;"), 0, NONE, 30, 1);
        gains(of("option a call 70;"), 0, 0, 0, 1);
        gains(option("put 50 any"), 0, 0, 0, 1);
        gains(option("put 50 out above 0 rebate 7"), 0, NONE, 0, 1);
    }

    @Says("holds at each NODE as much stock as STANDS tells (from IN on by PLAIN)")
    static void writerHoldsByPlainFromInOn() {
        // IN at 8: what VALUE asks behind it is not what PLAIN asks.
        OptionBench x = option("call 0 in below 8");
        for (int path = 0; path < 4; path++) {
            gains(x, path, 2, 0, 1);
        }
        gains(x, 2, NONE, 10, 1);
        gains(x, 0, NONE, 6, 1);
        gains(x, 1, NONE, 0, 1);
    }

    @Says("gives what the OPTION PAYS, where its owner exercises it")
    static void writerGivesWhatItPays() {
        // HELD 5 by 2 at the start is more than the 2 that it PAYS.
        gains(option("call 8 any"), 0, 0, 1, 2);
        gains(option("call 8 any"), 0, 1, 0, 1);
        gains(option("call 8 any"), 3, 1, 0, 1);
        gains(option("call 8 any"), 3, 2, 0, 1);
        gains(option("call 8 any"), 3, NONE, 6, 1);
    }

    @Says("its rebate, where it goes OUT")
    static void writerGivesTheRebate() {
        OptionBench x = option("call 8 out above 14 rebate 9");
        gains(x, 3, NONE, 0, 1);
        gains(x, 3, 2, 0, 1);
        gains(x, 0, 2, 0, 1);
        gains(x, 1, NONE, 2, 1);
        gains(option("call 8 out above 12 rebate 9"), 1, NONE, 0, 1);
        gains(option("call 8 out above 12 rebate 9"), 3, 2, 0, 1);
        // Without a rebate it ENDS there as well: at 10 behind it he would give 2.
        gains(option("call 8 out above 12"), 1, 2, 0, 1);
        gains(option("call 8 out above 12"), 1, NONE, 0, 1);
        gains(option("call 8 out above 12 rebate 0"), 3, 2, 0, 1);
    }

    @Says("what it would PAY and N, where it is RECALLED, and not exercised by its owner (it ENDS there)")
    static void writerGivesForTheRecall() {
        // VALUE 3 at the start is the 2 that it would PAY, and 1.
        OptionBench x = wide("call 8 any recall 1");
        is(x.does(0, 0, 0), 4);
        for (int path = 0; path < 4; path++) {
            gains(x, path, NONE, 0, 1);
            gains(x, path, 1, 0, 1);
            gains(x, path, 2, 0, 1);
            gains(x, path, 0, 1, 1);
        }
        // IN at the start, where PLAIN is RECALLED.
        gains(option("either 10 any in above 10 recall 1"), 3, 2, 0, 1);
    }

    // ---- promise 20 ----

    @Says("GAIN along a path (bit t less 1: up in STEP t)")
    static void gainPathBits() {
        OptionBench x = option("call 8");
        gains(x, 0, NONE, 0, 1);
        gains(x, 1, NONE, 2, 1);
        gains(x, 2, NONE, 2, 1);
        gains(x, 3, NONE, 6, 1);
        // Up first gains more than up last where STANDS is not alike.
        OptionBench y = of("stock 10 4;step 1;step 3;option a digit 12 8;");
        is(y.price(2, 1, 0), 10);
        gains(y, 3, NONE, 8, 1);
        gains(y, 1, NONE, 0, 1);
    }

    @Says("NoSuchElementException: no such ones (so below) .. GAIN along a path")
    static void gainOutside() {
        OptionBench x = of(LATTICE + "option a call 8;option b call 9;");
        is(x.gain(1, 3, 2, 1), 1);
        is(x.gain(0, 0, NONE, 1), 1);
        int[][] others = {{-1, 0, 0, 0}, {2, 0, 0, 0}, {0, -1, 0, 0}, {0, 4, 0, 0}, {0, 0, -2, 0}, {0, 0, 3, 0},
            {0, 0, 0, -1}, {0, 0, 0, 2}, {LOW, 0, 0, 0}, {FAR, 0, 0, 0}, {0, LOW, 0, 0}, {0, FAR, 0, 0}, {0, 0, LOW, 0},
            {0, 0, FAR, 0}, {0, 0, 0, LOW}, {0, 0, 0, FAR}};
        for (int[] o : others) {
            missing(() -> x.gain(o[0], o[1], o[2], o[3]));
        }
        OptionBench y = of("step 1 times 12;option a call 100;");
        gains(y, 4095, 12, 0, 1);
        gains(y, 4095, NONE, 12, 1);
        gains(y, 0, NONE, 0, 1);
        missing(() -> y.gain(0, 4096, 0, 0));
        missing(() -> y.gain(0, 0, 13, 0));
        OptionBench z = of("option a call 99;");
        gains(z, 0, NONE, 1, 1);
        missing(() -> z.gain(0, 1, 0, 0));
        missing(() -> z.gain(0, 0, 1, 0));
    }

    @Says("its owner exercising it at STEP e, if it MAY be then")
    static void gainWhereItMayNot() {
        // At STEP 1 it PAYS 42, but MAY not: it is never exercised.
        gains(option("put 50"), 0, 1, 44, 1);
        gains(option("put 50"), 0, NONE, 44, 1);
        gains(option("put 50 from 1"), 0, 0, 44, 1);
        gains(option("put 50 from 1"), 0, 1, 0, 1);
        gains(option("put 50 from 12"), 0, 1, 44, 1);
        gains(option("put 50 from 12"), 0, 2, 0, 1);
    }

    @Says("PAYS more than 0")
    static void gainWhereItPaysNothing() {
        // By 14 it PAYS 0 at 8 and 6, and is HELD: nothing is gained by then, nothing lost behind it.
        OptionBench x = option("call 8 any");
        gains(x, 2, 1, 2, 1);
        gains(x, 0, 1, 0, 1);
        gains(x, 2, NONE, 2, 1);
    }

    @Says("is not OUT by then")
    static void gainWhereItIsOut() {
        OptionBench x = option("call 8 any out above 12 rebate 9");
        fraction(part -> x.value(0, 0, 0, part), 5, 1);
        // OUT at 12: there and behind it, its owner has the rebate alone.
        gains(x, 1, 1, 0, 1);
        gains(x, 1, 2, 0, 1);
        gains(x, 3, 2, 0, 1);
        // Ahead of it, he has what it PAYS.
        gains(x, 1, 0, 3, 1);
    }

    @Says("not RECALLED ahead")
    static void gainWhereItIsRecalled() {
        OptionBench x = wide("call 8 any recall 1");
        // RECALLED at the start: exercised there it is not, behind it there is nothing.
        gains(x, 3, 0, 1, 1);
        gains(x, 3, 1, 0, 1);
        gains(x, 3, 2, 0, 1);
    }

    @Says("(in) came IN by then (else never, also for e NONE)")
    static void gainBeforeItIsIn() {
        OptionBench x = option("put 50 any in below 8");
        // IN at 8: exercised there, not ahead of it.
        gains(x, 0, 1, 0, 1);
        gains(x, 0, 2, 0, 1);
        gains(x, 0, 0, 44, 1);
        gains(x, 0, NONE, 44, 1);
        gains(x, 1, 2, 0, 1);
        gains(x, 1, 0, 0, 1);
        // Behind IN a NODE need not be TOUCHED.
        gains(x, 2, 2, 0, 1);
        gains(x, 2, NONE, 40, 1);
    }

    // ---- promise 21 ----

    @Says("of like ones the least number")
    static void richestOfLikeOnes() {
        is(option("call 8").richest(0, 2), 0);
        is(option("either 10").richest(0, NONE), 0);
        is(option("digit 10 6").richest(0, NONE), 1);
        is(option("digit 8 6").richest(0, NONE), 1);
        is(option("digit 14 6").richest(0, NONE), 3);
        is(option("call 8 out above 0 rebate 5").richest(0, NONE), 0);
        is(of("step 1 times 12;option a call 99;").richest(0, NONE), 4095);
        is(of("step 1 times 12;option a put 101;").richest(0, NONE), 0);
        is(of("step 1 times 12;option a call 99;").richest(0, 12), 0);
        is(of("step 1 times 12;option a digit 112 9;").richest(0, NONE), 4095);
        is(option("put 10").richest(0, 2), 0);
        is(option("call 5 in below 8").richest(0, NONE), 2);
        is(option("digit 10 6 in below 8").richest(0, NONE), 2);
        is(option("put 50 any in below 8").richest(0, NONE), 0);
        is(option("put 50 any in below 8").richest(0, 1), 0);
        is(option("call 5 any in above 12").richest(0, NONE), 3);
        is(option("call 5 any in above 12").richest(0, 2), 0);
        // What was found by another e is not in the way.
        OptionBench x = option("call 8 any");
        is(x.richest(0, NONE), 3);
        is(x.richest(0, 0), 0);
        is(x.richest(0, 2), 0);
        is(x.richest(0, NONE), 3);
        // All of 11 ups: the least number has its down last.
        is(of("step 1 times 12;option a digit 110 9;").richest(0, NONE), 2047);
    }

    @Says("NONE: no such ones (e NONE to STEPS)")
    static void richestOutside() {
        OptionBench x = of(LATTICE + "option a call 8;option b put 50;");
        is(x.richest(0, NONE), 3);
        is(x.richest(1, NONE), 0);
        is(x.richest(1, 2), 0);
        for (int other : new int[] {-2, 3, LOW, FAR}) {
            is(x.richest(0, other), NONE);
        }
        for (int other : new int[] {-1, 2, LOW, FAR}) {
            is(x.richest(other, 0), NONE);
        }
        is(of("option a call 8;").richest(0, 0), 0);
        is(of("option a call 8;").richest(0, 1), NONE);
        is(of("").richest(0, 0), NONE);
    }

    // ---- promise 22 ----

    @Says("Of a call the greatest, of a put the least K (0 to 999) by which VALUE at the start is v at least")
    static void strikeAtBounds() {
        OptionBench x = of(LATTICE + "option a call 9;option b put 9;");
        // Both are worth 1 with 10; a call 5 by 2 with 8, 7 by 4 with 9; a put 7 by 4 with 11, 5 by 2 with 12.
        is(x.strike(0, 1), 10);
        is(x.strike(0, 2), 8);
        is(x.strike(0, 3), 7);
        is(x.strike(1, 1), 10);
        is(x.strike(1, 2), 12);
        is(x.strike(0, 10), 0);
        is(x.strike(0, 0), 999);
        is(x.strike(0, -1), 999);
        is(x.strike(0, LOW), 999);
        is(x.strike(1, 0), 0);
        is(x.strike(1, -1), 0);
        is(x.strike(1, LOW), 0);
        is(x.strike(1, 989), 999);
        is(x.option(0, 1), 9);
        is(x.option(1, 1), 9);
        is(x.count(5), 0);
        // The greatest worth there can be at the start is above 999.
        OptionBench y = of("stock 999 2;cash 99;" + "step 1;cash 99;".repeat(12) + "option a call 5 any;");
        is(y.strike(0, 2286), 0);
        is(y.strike(0, 2287), NONE);
        is(y.strike(0, 1287), 999);
        is(y.strike(0, 1288), 998);
        // Without STEPS it is the difference to the PRICE.
        OptionBench z = of("stock 500 2;option a call 5;option b put 5;");
        for (int v = 1; v <= 499; v++) {
            is(z.strike(0, v), 500 - v);
            is(z.strike(1, v), 500 + v);
        }
        is(z.strike(0, 500), 0);
        is(z.strike(1, 500), NONE);
    }

    @Says("NONE: there is none, another KIND, no such one")
    static void strikeOfNone() {
        OptionBench x = of(LATTICE + "option a call 9;option b put 9;");
        is(x.strike(0, 11), NONE);
        is(x.strike(0, FAR), NONE);
        is(x.strike(1, 990), NONE);
        is(x.strike(1, FAR), NONE);
        for (int other : new int[] {-1, 2, LOW, FAR}) {
            is(x.strike(other, 0), NONE);
        }
        OptionBench y = of("option a digit 5 5;option b spread 5 9;option c either 5;option d over a 0;");
        for (int k = 0; k < 4; k++) {
            is(y.strike(k, 0), NONE);
        }
        // A rebate of 3 is there by each K, and nothing more.
        OptionBench z = of(LATTICE + "option a call 9 out above 0 rebate 3;option b put 9 out above 0 rebate 3;");
        is(z.strike(0, 3), 999);
        is(z.strike(0, 4), NONE);
        is(z.strike(1, 3), 0);
        is(z.strike(1, 4), NONE);
    }

    // ---- promise 23 ----

    @Says("VALUE at the start less VALUE of the same OPTION with 'once'")
    static void earlyAtBounds() {
        OptionBench x = of(LATTICE + "option a digit 12 6 any;option b digit 12 6;option c digit 12 6 from 2;option d over a 1;");
        fraction(part -> x.early(0, part), 3, 2);
        fraction(part -> x.early(1, part), 0, 1);
        fraction(part -> x.early(2, part), 0, 1);
        fraction(part -> x.early(3, part), 0, 1);
        is(x.option(0, 3), 0);
        fraction(part -> of("option a put 999 any;").early(0, part), 0, 1);
        // RECALLED and its BARRIER are the same in both.
        fraction(part -> option("either 10 any recall 1").early(0, part), 0, 1);
        fraction(part -> option("put 50 any out above 0 rebate 3").early(0, part), 0, 1);
    }

    @Says("no such ones (so below) .. VALUE at the start less VALUE of the same OPTION with 'once'")
    static void earlyOutside() {
        OptionBench x = option("put 9");
        for (int other : new int[] {-1, 1, LOW, FAR}) {
            missing(() -> x.early(other, 0));
        }
        for (int other : new int[] {-1, 2, LOW, FAR}) {
            missing(() -> x.early(0, other));
        }
        missing(() -> of("").early(0, 0));
    }

    // ---- promise 24 ----

    private static void worth(OptionBench x, int n, int upper, long above, long below) {
        fraction(part -> x.worthBy(0, n, upper, part), above, below);
    }

    @Says("at which it MAY, PAYS more than 0, and PRICE is n (0 to 2999) at least (upper 1), at most (0)")
    static void worthByAtItsNumber() {
        // With cash at the end: PRICES 13; 11, 15; 9, 13, 17. It PAYS 6 from 15 on.
        OptionBench x = of(LATTICE + "cash 3;option a digit 15 6 any;");
        worth(x, 14, 1, 3, 1);
        worth(x, 15, 1, 3, 1);
        worth(x, 16, 1, 3, 2);
        worth(x, 14, 0, 3, 2);
        worth(x, 15, 0, 3, 1);
        worth(x, 2999, 0, 3, 1);
        worth(x, 2999, 1, 3, 2);
        worth(x, 0, 1, 3, 1);
        worth(x, 0, 0, 3, 2);
    }

    @Says("if its owner exercises it at the first NODE at which it MAY")
    static void worthByWhereItMay() {
        worth(option("digit 12 6 any"), 0, 1, 3, 1);
        worth(option("digit 12 6 from 1"), 0, 1, 3, 1);
        worth(option("digit 12 6 from 2"), 0, 1, 3, 2);
        worth(option("digit 12 6"), 0, 1, 3, 2);
        // The first: 1 at the start, though more comes.
        worth(option("put 11 any"), 10, 1, 1, 1);
        worth(option("put 11 any"), 11, 1, 7, 4);
    }

    @Says("PAYS more than 0, and PRICE is n")
    static void worthByWherePaysNothing() {
        // It PAYS 0 at the start: its owner goes on.
        worth(option("either 10 any"), 10, 1, 2, 1);
        worth(option("either 10 any"), 10, 0, 2, 1);
        worth(option("either 11 any"), 10, 1, 1, 1);
    }

    @Says("or at STEP N, if it PAYS (by in: from IN on)")
    static void worthByAtTheEnd() {
        worth(option("call 8 any"), 2999, 1, 5, 2);
        worth(option("call 8 any in above 14"), 0, 1, 3, 2);
        worth(option("call 8 any in above 14"), 0, 0, 3, 2);
        worth(option("call 8 any in above 15"), 0, 1, 0, 1);
        // IN at 8, PAYS 3 there; or, going on, 1 and 5.
        worth(option("call 5 any in below 8"), 0, 1, 3, 2);
        worth(option("call 5 any in below 8"), 9, 1, 3, 2);
        worth(option("call 5 any in below 8"), 11, 1, 3, 2);
        worth(option("digit 10 6 any in below 8"), 2999, 1, 3, 2);
        worth(option("call 5 any out above 0 rebate 7"), 0, 1, 7, 1);
        worth(option("call 5 any out above 12 rebate 7"), 11, 1, 5, 1);
    }

    @Says("it is never RECALLED")
    static void worthByIsNeverRecalled() {
        worth(option("either 10 recall 1"), 0, 1, 2, 1);
        is(option("either 10 recall 1").value(0, 0, 0, 0), 1);
        worth(option("either 10 any in above 10 recall 1"), 2999, 1, 2, 1);
    }

    @Says("no such ones (so below) .. n (0 to 2999) at least (upper 1), at most (0), or at STEP N")
    static void worthByOutside() {
        OptionBench x = option("call 8");
        int[][] others = {{-1, 0, 0, 0}, {1, 0, 0, 0}, {0, -1, 0, 0}, {0, 3000, 0, 0}, {0, 0, -1, 0}, {0, 0, 2, 0},
            {0, 0, 0, -1}, {0, 0, 0, 2}, {LOW, 0, 0, 0}, {FAR, 0, 0, 0}, {0, LOW, 0, 0}, {0, FAR, 0, 0}, {0, 0, LOW, 0},
            {0, 0, FAR, 0}, {0, 0, 0, LOW}, {0, 0, 0, FAR}};
        for (int[] o : others) {
            missing(() -> x.worthBy(o[0], o[1], o[2], o[3]));
        }
        missing(() -> of("").worthBy(0, 0, 0, 0));
    }

    // ---- promise 25 ----

    @Says("The n for which that is most, of like ones the least")
    static void bestByOfLikeOnes() {
        is(option("call 8").bestBy(0, 0), 0);
        is(option("call 8").bestBy(0, 1), 0);
        is(option("put 11 any").bestBy(0, 1), 11);
        is(option("put 11 any").bestBy(0, 0), 0);
        is(option("digit 12 6 any").bestBy(0, 1), 0);
        is(option("digit 12 6 any").bestBy(0, 0), 12);
        is(option("either 11 any").bestBy(0, 1), 13);
        // 1 by 0 to 10, 7 by 4 by 11 and 12, 5 by 4 from 13 on.
        is(option("spread 9 12 any").bestBy(0, 1), 11);
        // 9 by 2 by 0 to 7, 6 from 8 on.
        is(option("digit 8 6 any").bestBy(0, 0), 8);
        is(of("option a call 5 any;").bestBy(0, 1), 0);
        is(of("option a call 5 any;").bestBy(0, 0), 0);
        // The highest PRICE at which something else is done can be far up.
        OptionBench x = of("stock 999 9;cash 99;step 1;cash 99;step 1;cash 99;option a put 999 any;option b call 999 any;");
        is(x.bestBy(0, 1), 0);
        is(x.bestBy(1, 1), 0);
        is(x.bestBy(1, 0), 1296);
    }

    @Says("The n for which that is most")
    static void bestByAskedAgain() {
        // PRICES 13; 11, 15; 6, 10, 14: by 0 both are worth 5; one 13 by 2 by 11, 8 from 13 on, the other 8 from 15 on.
        OptionBench x = of("stock 10 4;step 2;cash 3;step 2;option a call 5 any;option b call 5 from 1;");
        for (int round = 0; round < 3; round++) {
            is(x.bestBy(0, 0), 13);
            is(x.bestBy(1, 0), 15);
            is(x.bestBy(1, 0), 15);
            is(x.bestBy(1, 1), 0);
        }
        // What was found on greater benches ahead is not in the way.
        OptionBench y = new OptionBench();
        for (int first = 100; first <= 500; first += 100) {
            feed(y, "stock " + first + " 9;step 1 times 12;option a put 999 any;");
            is(y.bench(), 1);
            is(y.bestBy(0, 1), 0);
        }
        feed(y, LATTICE + "option a spread 9 12 any;");
        is(y.bench(), 1);
        is(y.bestBy(0, 1), 11);
    }

    @Says("The n for which that is most")
    static void bestByForTheLeastPay() {
        // At the start the other one is worth 1 by 4; held on, what is over it goes OUT at 102.
        OptionBench x = of("step 1 times 2;option a digit 102 1;option b over a 0 any out above 102;");
        fraction(part -> x.worthBy(1, 99, 0, part), 0, 1);
        fraction(part -> x.worthBy(1, 100, 0, part), 1, 4);
        is(x.bestBy(1, 0), 100);
    }

    @Says("of like ones the least; NONE: no such ones")
    static void bestByOutside() {
        OptionBench x = option("call 8");
        for (int other : new int[] {-1, 1, LOW, FAR}) {
            is(x.bestBy(other, 0), NONE);
        }
        for (int other : new int[] {-1, 2, LOW, FAR}) {
            is(x.bestBy(0, other), NONE);
        }
        is(of("").bestBy(0, 0), NONE);
    }

    // ---- promise 26 ----

    @Says("How likely PRICE is n (0 to 2999) at least (upper 1), at most (0) at some NODE one comes to")
    static void reachAtItsNumber() {
        OptionBench x = of(LATTICE + "cash 3;");
        int[][] upper = {{13, 1, 1}, {14, 1, 2}, {15, 1, 2}, {16, 1, 4}, {17, 1, 4}, {18, 0, 1}, {0, 1, 1}, {2999, 0, 1}};
        for (int[] due : upper) {
            fraction(part -> x.reach(due[0], 1, part), due[1], due[2]);
        }
        int[][] lower = {{13, 1, 1}, {12, 1, 2}, {11, 1, 2}, {10, 1, 4}, {9, 1, 4}, {8, 0, 1}, {0, 0, 1}, {2999, 1, 1}};
        for (int[] due : lower) {
            fraction(part -> x.reach(due[0], 0, part), due[1], due[2]);
        }
        fraction(part -> of("stock 0 2;").reach(0, 0, part), 1, 1);
        // At some NODE: the cash of the start is gone behind it.
        fraction(part -> of("cash 9;step 1;").reach(109, 1, part), 1, 1);
    }

    @Says("no such ones (so below) .. How likely PRICE is n (0 to 2999)")
    static void reachOutside() {
        OptionBench x = of(LATTICE);
        int[][] others = {{-1, 0, 0}, {3000, 0, 0}, {0, -1, 0}, {0, 2, 0}, {0, 0, -1}, {0, 0, 2}, {LOW, 0, 0}, {FAR, 0, 0},
            {0, LOW, 0}, {0, FAR, 0}, {0, 0, LOW}, {0, 0, FAR}};
        for (int[] o : others) {
            missing(() -> x.reach(o[0], o[1], o[2]));
        }
    }

    public static void main(String[] args) throws IllegalAccessException, IOException {
        runAll(BoundaryOwnerTest.class);
    }
}
