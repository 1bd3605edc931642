import java.io.IOException;

/** The boundary cases of the BOOK, of what is told anew and undone, of images (promises 27 to 37): a test for each sentence. */
public final class BoundaryChangeTest extends Checks {
    /** Worth 1 each at the start; at the end 0, 0, 4 and 4, 0, 0. */
    private static final String PAIR = LATTICE + "option a call 10;option b put 10;";
    private static final String FOUR = PAIR + "option c call 10;option d put 50;";
    private static final int[] NO_OPTION_OF_TWO = {-1, 2, LOW, FAR};
    private static final int[] NO_STEP_OF_TWO = {-1, 3, LOW, FAR};

    private static OptionBench owning(int calls, int puts) {
        OptionBench x = of(PAIR);
        x.own(0, calls);
        x.own(1, puts);
        return x;
    }

    /** Calls that were refused left all of it as it was. */
    private static void untouched(OptionBench x) {
        is(x.count(0), 2);
        is(x.count(1), 2);
        is(x.count(2), 4);
        is(x.count(3), 10);
        is(x.count(4), 0);
        is(x.count(5), 0);
        is(x.undo(), NONE);
        for (int k = 0; k < 2; k++) {
            is(x.option(k, 1), 10);
            is(x.option(k, 8), 0);
            is(x.value(k, 0, 0, 0), 1);
        }
        is(x.step(1, 0), 2);
        is(x.step(2, 0), 2);
    }

    // ---- promise 27 ----

    @Says("So many of an OPTION are in the BOOK (-9 to 9): how many were")
    static void ownAtBounds() {
        OptionBench x = of(PAIR);
        is(x.own(0, 9), 0);
        is(x.own(0, -9), 9);
        is(x.own(0, 0), -9);
        is(x.own(0, 0), 0);
        is(x.own(1, -1), 0);
        is(x.option(0, 8), 0);
        is(x.option(1, 8), -1);
        is(x.count(5), 5);
    }

    @Says("how many were; HIDDEN: no such ones")
    static void ownRefused() {
        OptionBench x = of(PAIR);
        for (int other : NO_OPTION_OF_TWO) {
            is(x.own(other, 1), HIDDEN);
        }
        for (int other : new int[] {-10, 10, LOW, FAR}) {
            is(x.own(0, other), HIDDEN);
        }
        untouched(x);
        is(of("").own(0, 0), HIDDEN);
    }

    // ---- promise 28 ----

    @Says("At a NODE VALUES of all in the BOOK, together")
    static void bookAtBounds() {
        fraction(part -> of(PAIR).book(0, 0, part), 0, 1);
        fraction(part -> owning(9, 9).book(0, 0, part), 18, 1);
        fraction(part -> owning(-9, -9).book(2, 2, part), -36, 1);
        fraction(part -> owning(9, -9).book(0, 0, part), 0, 1);
        fraction(part -> owning(0, 1).book(1, 0, part), 2, 1);
        fraction(part -> of("").book(0, 0, part), 0, 1);
        OptionBench x = of(FOUR);
        for (int k = 0; k < 4; k++) {
            is(x.own(k, k + 1), 0);
        }
        fraction(part -> x.book(2, 2, part), 4 + 3 * 4 + 4 * 36, 1);
    }

    @Says("no such ones (so below) .. At a NODE VALUES of all in the BOOK, together")
    static void bookOutside() {
        OptionBench x = of(PAIR);
        int[][] others = {{-1, 0, 0}, {3, 0, 0}, {0, -1, 0}, {0, 1, 0}, {2, 3, 0}, {0, 0, -1}, {0, 0, 2}, {LOW, 0, 0},
            {FAR, 0, 0}, {FAR, FAR, 0}, {0, LOW, 0}, {0, FAR, 0}, {0, 0, LOW}, {0, 0, FAR}};
        for (int[] o : others) {
            missing(() -> x.book(o[0], o[1], o[2]));
        }
    }

    // ---- promise 29 ----

    @Says("What STANDS for all of it there (0), and what is left beside that by STRIPPED (1: VALUES less STANDS times STRIPPED)")
    static void coverAtBounds() {
        OptionBench x = owning(1, 0);
        fraction(part -> x.cover(0, 0, 0, part), 1, 2);
        fraction(part -> x.cover(0, 0, 1, part), -4, 1);
        fraction(part -> x.cover(2, 2, 0, part), 0, 1);
        fraction(part -> x.cover(2, 2, 1, part), 4, 1);
        fraction(part -> of(PAIR).cover(0, 0, 0, part), 0, 1);
        fraction(part -> of(PAIR).cover(0, 0, 1, part), 0, 1);
        fraction(part -> owning(9, 9).cover(0, 0, 0, part), 0, 1);
        fraction(part -> owning(9, -9).cover(0, 0, 0, part), 9, 1);
        OptionBench w = of(FOUR);
        for (int k = 0; k < 4; k++) {
            is(w.own(k, k + 1), 0);
        }
        fraction(part -> w.cover(1, 1, 0, part), 1 + 3 - 4, 1);
        // STRIPPED, not PRICE; and at a STRIPPED of 0 all is beside it.
        OptionBench y = of("stock 0 2;cash 9;option a call 2;");
        y.own(0, 1);
        fraction(part -> y.cover(0, 0, 1, part), 7, 1);
        // OUT: nothing STANDS for it.
        OptionBench z = of(LATTICE + "option a call 5 out above 12 rebate 3;");
        z.own(0, 2);
        fraction(part -> z.cover(1, 1, 0, part), 0, 1);
        fraction(part -> z.cover(1, 1, 1, part), 6, 1);
    }

    @Says("no such ones (so below) .. What STANDS for all of it there (0)")
    static void coverOutside() {
        OptionBench x = of(PAIR);
        int[][] others = {{-1, 0, 0, 0}, {3, 0, 0, 0}, {0, -1, 0, 0}, {0, 1, 0, 0}, {2, 3, 0, 0}, {0, 0, -1, 0},
            {0, 0, 2, 0}, {0, 0, 0, -1}, {0, 0, 0, 2}, {LOW, 0, 0, 0}, {FAR, FAR, 0, 0}, {0, LOW, 0, 0}, {0, FAR, 0, 0},
            {0, 0, LOW, 0}, {0, 0, FAR, 0}, {0, 0, 0, LOW}, {0, 0, 0, FAR}};
        for (int[] o : others) {
            missing(() -> x.cover(o[0], o[1], o[2], o[3]));
        }
    }

    // ---- promise 30 ----

    @Says("At STEP N the NODE at which the BOOK is worth least (0), most (1), of like ones the least")
    static void extremeOfLikeOnes() {
        is(of(PAIR).extreme(0), 0);
        is(of(PAIR).extreme(1), 0);
        is(owning(1, 0).extreme(0), 0);
        is(owning(1, 0).extreme(1), 2);
        is(owning(0, 1).extreme(0), 1);
        is(owning(0, 1).extreme(1), 0);
        is(owning(1, 1).extreme(0), 1);
        is(owning(1, 1).extreme(1), 0);
        is(owning(-1, -1).extreme(0), 0);
        is(owning(-1, -1).extreme(1), 1);
        is(owning(-1, 0).extreme(0), 2);
        is(owning(-1, 0).extreme(1), 0);
        is(of("").extreme(0), 0);
        is(of("").extreme(1), 0);
        OptionBench x = of("step 1 times 12;option a call 0;");
        x.own(0, 9);
        is(x.extreme(1), 12);
        x.own(0, -9);
        is(x.extreme(0), 12);
    }

    @Says("of like ones the least; NONE for another what")
    static void extremeOfAnother() {
        OptionBench x = owning(1, 0);
        for (int other : new int[] {-1, 2, LOW, FAR}) {
            is(x.extreme(other), NONE);
        }
    }

    // ---- promise 31 ----

    @Says("The price at first STRIPPED is another one: 0; 1: it is that")
    static void moveAtBounds() {
        OptionBench x = of(PAIR);
        is(x.move(10), 1);
        is(x.count(5), 0);
        is(x.move(999), 0);
        is(x.move(999), 1);
        is(x.move(4), 0);
        is(x.count(5), 2);
        is(x.price(2, 0, 2), 0);
        is(x.value(1, 0, 0, 0), 6);
        is(of("").move(0), 0);
        is(of("").move(100), 1);
        is(of("").move(999), 0);
    }

    @Says("NONE: not 0 to 999, or it could be below 0")
    static void moveRefused() {
        OptionBench x = of(PAIR);
        for (int other : new int[] {-1, 1000, 3, 0, LOW, FAR}) {
            is(x.move(other), NONE);
        }
        untouched(x);
        is(of("").move(-1), NONE);
        is(of("").move(1000), NONE);
        // Cash does not count for it.
        is(of("step 1;cash 50;").move(0), NONE);
        is(of("step 1;cash 50;").move(1), 0);
    }

    // ---- promise 32 ----

    @Says("FALL of a STEP is another one: likewise")
    static void fallAtBounds() {
        OptionBench x = of(PAIR);
        is(x.fall(1, 2), 1);
        is(x.fall(2, 2), 1);
        is(x.count(5), 0);
        is(x.fall(1, 1), 0);
        is(x.fall(2, 3), 0);
        is(x.step(1, 0), 1);
        is(x.step(2, 0), 3);
        is(x.count(5), 2);
        is(x.price(1, 0, 2), 9);
        is(x.price(2, 0, 2), 6);
        // To a lowest price of 0, and not below it.
        OptionBench y = of("stock 4 4;step 1;step 1;");
        is(y.fall(2, 3), 0);
        is(y.price(2, 0, 2), 0);
        is(y.fall(1, 2), NONE);
        is(y.fall(1, 1), 1);
        is(y.fall(2, 2), 0);
        is(y.fall(1, 3), NONE);
        is(y.fall(1, 2), 0);
        OptionBench z = of("stock 50 9;step 1 times 12;");
        is(z.fall(12, 8), 0);
        is(z.fall(13, 8), NONE);
    }

    @Says("FALL of a STEP is another one: likewise .. NONE: not 0 to 999, or it could be below 0")
    static void fallRefused() {
        OptionBench x = of(PAIR);
        for (int other : new int[] {-1, 0, 4, LOW, FAR}) {
            is(x.fall(1, other), NONE);
        }
        for (int other : new int[] {0, -1, 3, LOW, FAR}) {
            is(x.fall(other, 1), NONE);
        }
        untouched(x);
        is(of("").fall(1, 1), NONE);
        is(of("").fall(0, 1), NONE);
        is(of("step 1;").fall(1, 1), 1);
        is(of("step 1;").fall(1, 2), NONE);
    }

    // ---- promise 33 ----

    @Says("Cash at a STEP is another one (0 to 99): likewise")
    static void cashAtBounds() {
        OptionBench x = of(PAIR);
        is(x.cash(0, 0), 1);
        is(x.count(5), 0);
        is(x.cash(0, 99), 0);
        is(x.cash(2, 99), 0);
        is(x.cash(2, 99), 1);
        is(x.cash(0, 1), 0);
        is(x.cash(0, 0), 0);
        is(x.step(0, 1), 0);
        is(x.step(2, 1), 99);
        is(x.count(4), 99);
        is(x.count(5), 4);
        is(x.price(0, 0, 0), 109);
        is(x.value(0, 0, 0, 0), 99);
        OptionBench y = of("step 1 times 12;");
        is(y.cash(12, 5), 0);
        is(y.cash(13, 5), NONE);
        is(of("").cash(0, 5), 0);
    }

    @Says("Cash at a STEP is another one (0 to 99): likewise")
    static void cashRefused() {
        OptionBench x = of(PAIR);
        for (int other : NO_STEP_OF_TWO) {
            is(x.cash(other, 1), NONE);
            is(x.cash(other, 0), NONE);
        }
        for (int other : new int[] {-1, 100, LOW, FAR}) {
            is(x.cash(0, other), NONE);
        }
        untouched(x);
    }

    // ---- promise 34 ----

    @Says("An OPTION has another K (0 to 999; of spread below the second one): likewise")
    static void restrikeAtBounds() {
        OptionBench x = of(LATTICE + "option a call 10;option b spread 7 11;option c over a 2;option d digit 5 5;");
        is(x.restrike(0, 10), 1);
        is(x.count(5), 0);
        is(x.restrike(0, 999), 0);
        is(x.restrike(0, 0), 0);
        is(x.value(0, 0, 0, 0), 10);
        is(x.restrike(1, 10), 0);
        is(x.restrike(1, 10), 1);
        is(x.restrike(1, 11), NONE);
        is(x.restrike(1, 12), NONE);
        is(x.restrike(1, 999), NONE);
        is(x.restrike(1, 0), 0);
        is(x.option(1, 1), 0);
        is(x.option(1, 2), 11);
        is(x.restrike(2, 999), 0);
        is(x.restrike(3, 999), 0);
        is(x.option(3, 2), 5);
        is(x.count(5), 6);
    }

    @Says("An OPTION has another K (0 to 999; of spread below the second one): likewise")
    static void restrikeRefused() {
        OptionBench x = of(PAIR);
        for (int other : NO_OPTION_OF_TWO) {
            is(x.restrike(other, 1), NONE);
        }
        for (int other : new int[] {-1, 1000, LOW, FAR}) {
            is(x.restrike(0, other), NONE);
        }
        untouched(x);
        OptionBench y = of("option a spread 10 999;");
        is(y.restrike(0, 999), NONE);
        is(y.restrike(0, -1), NONE);
        is(y.restrike(0, 998), 0);
        is(of("").restrike(0, 0), NONE);
    }

    // ---- promise 35 ----

    @Says("The latest own() that was not HIDDEN, move(), fall(), cash(), restrike() that was 0 is undone: how many more can be")
    static void undoTheLatest() {
        OptionBench x = of(PAIR);
        is(x.own(0, 3), 0);
        is(x.own(0, 3), 3);
        is(x.move(20), 0);
        is(x.fall(1, 1), 0);
        is(x.cash(1, 5), 0);
        is(x.restrike(1, 30), 0);
        // None of these is an act.
        is(x.own(0, 10), HIDDEN);
        is(x.move(20), 1);
        is(x.fall(1, 1), 1);
        is(x.cash(1, 5), 1);
        is(x.restrike(1, 30), 1);
        is(x.move(1000), NONE);
        is(x.image(0), true);
        is(x.count(5), 6);
        is(x.undo(), 5);
        is(x.option(1, 1), 10);
        is(x.undo(), 4);
        is(x.step(1, 1), 0);
        is(x.undo(), 3);
        is(x.step(1, 0), 2);
        is(x.undo(), 2);
        is(x.count(3), 10);
        is(x.value(0, 0, 0, 0), 1);
        is(x.undo(), 1);
        is(x.option(0, 8), 3);
        is(x.undo(), 0);
        is(x.option(0, 8), 0);
        untouched(x);
    }

    @Says("restrike() that was 0 is undone")
    static void worthsFollowEachChange() {
        OptionBench x = of(PAIR);
        is(x.value(0, 0, 0, 0), 1);
        is(x.move(20), 0);
        is(x.value(0, 0, 0, 0), 10);
        is(x.restrike(0, 5), 0);
        is(x.value(0, 0, 0, 0), 15);
        is(x.cash(0, 7), 0);
        is(x.value(0, 0, 0, 0), 15);
        is(x.price(0, 0, 0), 27);
        is(x.cash(2, 7), 0);
        is(x.value(0, 0, 0, 0), 22);
        is(x.fall(1, 1), 0);
        fraction(part -> x.ending(0, 2, 0, part), 1, 1);
        is(x.price(1, 0, 2), 19);
        is(x.undo(), 4);
        is(x.price(1, 0, 2), 18);
        is(x.undo(), 3);
        is(x.value(0, 0, 0, 0), 15);
        is(x.undo(), 2);
        is(x.undo(), 1);
        is(x.value(0, 0, 0, 0), 10);
        is(x.image(0), true);
        is(x.undo(), 0);
        is(x.value(0, 0, 0, 0), 1);
        is(x.restore(0), true);
        is(x.value(0, 0, 0, 0), 10);
        is(x.price(0, 0, 0), 20);
    }

    @Says("(8 at most are kept)")
    static void undoEightOfAllKinds() {
        OptionBench x = of(PAIR);
        is(x.move(11), 0);
        is(x.own(0, 1), 0);
        is(x.own(1, 2), 0);
        is(x.fall(1, 3), 0);
        is(x.fall(2, 1), 0);
        is(x.cash(0, 4), 0);
        is(x.cash(2, 5), 0);
        is(x.restrike(0, 6), 0);
        is(x.restrike(1, 7), 0);
        is(x.own(1, 8), 2);
        // The first two are no longer kept.
        for (int more = 7; more >= 0; more--) {
            is(x.undo(), more);
            is(x.option(1, 8), more > 0 ? 2 : 0);
            is(x.option(1, 1), more > 6 ? 7 : 10);
            is(x.option(0, 1), more > 5 ? 6 : 10);
            is(x.step(2, 1), more > 4 ? 5 : 0);
            is(x.step(0, 1), more > 3 ? 4 : 0);
            is(x.step(2, 0), more > 2 ? 1 : 2);
            is(x.step(1, 0), more > 1 ? 3 : 2);
        }
        is(x.undo(), NONE);
        is(x.option(0, 8), 1);
        is(x.count(3), 11);
    }

    @Says("(8 at most are kept)")
    static void undoEightAtMost() {
        OptionBench x = of(PAIR);
        for (int n = 11; n <= 18; n++) {
            is(x.move(n), 0);
            is(x.count(5), n - 10);
        }
        is(x.move(19), 0);
        is(x.count(5), 8);
        is(x.cash(0, 7), 0);
        is(x.count(5), 8);
        for (int more = 7; more >= 0; more--) {
            is(x.undo(), more);
            is(x.count(3), 12 + more);
        }
        is(x.undo(), NONE);
        is(x.count(3), 12);
        is(x.step(0, 1), 0);
        // There is room for eight again.
        for (int n = 21; n <= 29; n++) {
            is(x.move(n), 0);
        }
        is(x.undo(), 7);
        is(x.count(3), 28);
    }

    @Says("NONE: none is.")
    static void undoNothing() {
        is(new OptionBench().undo(), NONE);
        OptionBench x = of(PAIR);
        is(x.undo(), NONE);
        is(x.undo(), NONE);
        untouched(x);
        is(x.own(1, 0), 0);
        is(x.undo(), 0);
        is(x.undo(), NONE);
        untouched(x);
    }

    // ---- promise 36 ----

    @Says("The BENCH and the BOOK are kept in place k (0, 1): true; false: no such one")
    static void imageAtBounds() {
        OptionBench x = of(PAIR);
        for (int other : new int[] {-1, 2, LOW, FAR}) {
            is(x.image(other), false);
            is(x.restore(other), false);
        }
        is(x.restore(0), false);
        is(x.restore(1), false);
        is(x.image(0), true);
        is(x.restore(1), false);
        is(x.own(0, 4), 0);
        is(x.move(30), 0);
        is(x.fall(2, 3), 0);
        is(x.cash(1, 9), 0);
        is(x.restrike(0, 8), 0);
        is(x.image(1), true);
        is(x.count(5), 5);
        is(x.restore(0), true);
        untouched(x);
        is(x.restore(1), true);
        is(x.option(0, 8), 4);
        is(x.count(3), 30);
        is(x.step(2, 0), 3);
        is(x.step(1, 1), 9);
        is(x.option(0, 1), 8);
    }

    @Says("kept in place k (0, 1)")
    static void imageAnew() {
        // The latest one is kept; what is done behind it is not in it.
        OptionBench x = of(PAIR);
        is(x.move(30), 0);
        is(x.image(1), true);
        is(x.undo(), 0);
        is(x.image(1), true);
        is(x.move(40), 0);
        is(x.restore(1), true);
        untouched(x);
        // A new BENCH leaves what is kept.
        feed(x, "stock 70 9;");
        is(x.bench(), 0);
        is(x.restore(1), true);
        untouched(x);
        // So does a new object: it has none.
        is(of("").restore(1), false);
        // A BENCH without anything can be kept, too.
        OptionBench y = new OptionBench();
        is(y.image(0), true);
        feed(y, PAIR);
        is(y.bench(), 2);
        is(y.restore(0), true);
        is(y.count(0), 0);
        is(y.count(1), 0);
        is(y.count(2), 2);
        is(y.count(3), 100);
        is(y.option(0, 0), HIDDEN);
    }

    // ---- promise 37 ----

    @Says("They are as kept in place k (the tape, FAULT stay; nothing can be undone): true")
    static void restoreLeavesTheTape() {
        OptionBench x = of(PAIR);
        is(x.image(0), true);
        is(x.own(0, 5), 0);
        is(x.move(50), 0);
        feed(x, "cash 1;cash 1;");
        is(x.bench(), -1007);
        feed(x, "cash 5;");
        is(x.restore(0), true);
        is(x.count(6), 7);
        is(x.fault(), 3);
        untouched(x);
        is(x.bench(), 0);
        is(x.count(4), 5);
        is(x.fault(), 0);
    }

    @Says("false: no such one, or nothing is kept there")
    static void restoreRefused() {
        OptionBench x = of(PAIR);
        is(x.image(1), true);
        is(x.move(50), 0);
        for (int other : new int[] {-1, 0, 2, LOW, FAR}) {
            is(x.restore(other), false);
        }
        // All stays, what can be undone, too.
        is(x.count(3), 50);
        is(x.count(5), 1);
        is(x.undo(), 0);
        untouched(x);
        is(x.restore(1), true);
        is(x.restore(1), true);
        untouched(x);
    }

    // ---- all of them ----

    @Says("An object is used for at most 512 calls after it has been made")
    static void all512Calls() {
        OptionBench x = new OptionBench();
        for (int call = 1; call <= 500; call++) {
            is(x.move(call), 0);
        }
        is(x.count(5), 8);
        is(x.feed(0x6f707469, 0x6f6e2061, 0x20707574, 0x20393132, 0x3b202020), 20);
        is(x.bench(), 1);
        is(x.own(0, 9), 0);
        is(x.value(0, 0, 0, 0), 812);
        is(x.book(0, 0, 0), 9 * 812);
        is(x.image(1), true);
        is(x.undo(), 0);
        is(x.restore(1), true);
        is(x.gain(0, 0, NONE, 0), 812);
        is(x.bestBy(0, 1), 0);
        is(x.option(0, 8), 9);
    }

    public static void main(String[] args) throws IllegalAccessException, IOException {
        runAll(BoundaryChangeTest.class);
    }
}
