import java.util.Map;

/** The edges of promises 1 to 11: a new object, and the calls over single intervals. */
public final class EdgesOfIntervalsTest {
    private static final Edge EDGE = new Edge();
    private static final int OCTAVE = Benches.OCTAVE;
    private static final int FIFTH = Benches.FIFTH;
    private static final int UNISON = Benches.UNISON;
    private static final int FALLING = Benches.FALLING;
    private static final int HIGH = Benches.HIGH;
    private static final int BARE = Benches.BARE;
    private static final int FREE = Benches.FREE;
    private static final String FREE_SHELF = "shelf " + FREE;

    public static void main(String[] args) {
        newObject();
        objectsAreApart();
        setOrder();
        ratioFromOneToAMilliard();
        ratioFar();
        ratioOfAnotherPrime();
        ratioOrder();
        timesFromMinus24To24();
        timesFar();
        timesOntoItself();
        timesOrder();
        foldIntoOneOrBelow();
        foldFar();
        foldFarByBothPrimesOfThePeriod();
        foldFarByThePrimeBelow();
        foldOntoItself();
        foldOrder();
        dropTwice();
        exponentFrom0To5();
        exponentOfMinusOne();
        exponentOrder();
        orderTells();
        orderOrder();
        showWithoutCommonDivisor();
        showTheLongest();
        showRefusedLeavesOut();
        outFromEndToEnd();
        EDGE.finish();
    }

    // Promise 1: "Nothing on the SHELVES, no COMMAS, no SCALE; STATUS 0."
    private static void newObject() {
        TuneBench x = new TuneBench();
        EDGE.due("STATUS of a new object", x.status(), 0);
        Map<String, String> state = State.of(x);
        EDGE.due("OUT of a new object", state.get("OUT"), "");
        for (int shelf = 0; shelf < 16; shelf++) {
            EDGE.due("a new shelf " + shelf, state.get("shelf " + shelf), State.EMPTY);
        }
        EDGE.due("a new scale", state.get("scale"), State.EMPTY);
        EDGE.due("new commas", state.get("commas"), "rank 0, twist 1, vanishing 0 0 0 0 0 0 0 0, supported by 1, of 0");
    }

    // Promise 1, of the second object: what the first one holds is not in it.
    private static void objectsAreApart() {
        TuneBench first = new TuneBench();
        Benches.furnished(first);
        first.show(16);
        newObject();
        TuneBench second = new TuneBench();
        second.ratio(0, 7, 1);
        second.begin(0);
        second.comma(0);
        second.show(0);
        EDGE.due("STATUS of the first", first.status(), 1);
        Map<String, String> state = State.of(first);
        EDGE.due("OUT of the first", state.get("OUT"), "3/2");
        EDGE.due("shelf 0 of the first", state.get("shelf 0"), "2/1");
        EDGE.due("scale of the first", state.get("scale"), Benches.FOUR_NOTES);
    }

    // Promise 3: "(1, 4)". The exponents' own edges are asked in EdgesOfTermsTest.
    private static void setOrder() {
        for (int shelf : Edge.NO_SHELVES) {
            EDGE.denies("set, 1 ahead of 4", Benches::furnished, x -> x.set(shelf, 25, 0, 0, 0, 0, -25), 1);
        }
        EDGE.does("set all to 24", Benches::furnished, x -> x.set(FREE, 24, 24, 24, 24, 24, 24), FREE_SHELF,
            State.ratio(24, 24, 24, 24, 24, 24));
        EDGE.does("set all to -24", Benches::furnished, x -> x.set(0, -24, -24, -24, -24, -24, -24), "shelf 0",
            State.ratio(-24, -24, -24, -24, -24, -24));
        EDGE.does("set each its own", Benches::furnished, x -> x.set(FREE, 1, -2, 3, -4, 5, -6), FREE_SHELF,
            State.ratio(1, -2, 3, -4, 5, -6));
    }

    // Promise 4: "n by d (1 to 1,000,000,000 each, else 3)".
    private static void ratioFromOneToAMilliard() {
        int most = 1000000000;
        EDGE.does("ratio 1/1", Benches::furnished, x -> x.ratio(FREE, 1, 1), FREE_SHELF, "1/1");
        EDGE.does("the greatest n", Benches::furnished, x -> x.ratio(FREE, most, 1), FREE_SHELF, "1000000000/1");
        EDGE.does("the greatest d", Benches::furnished, x -> x.ratio(FREE, 1, most), FREE_SHELF, "1/1000000000");
        EDGE.does("the greatest of both", Benches::furnished, x -> x.ratio(FREE, most, most), FREE_SHELF, "1/1");
        for (int wrong : new int[] {0, -1, -2, most + 1, Integer.MAX_VALUE, Integer.MIN_VALUE}) {
            EDGE.denies("ratio " + wrong + "/1", Benches::furnished, x -> x.ratio(FREE, wrong, 1), 3);
            EDGE.denies("ratio 1/" + wrong, Benches::furnished, x -> x.ratio(FREE, 1, wrong), 3);
            EDGE.denies("ratio of both", Benches::furnished, x -> x.ratio(OCTAVE, wrong, wrong), 3);
        }
    }

    // "4 what comes would be FAR": by 2 alone, for 3 to the power 25 is beyond a milliard.
    private static void ratioFar() {
        EDGE.does("2^24", Benches::furnished, x -> x.ratio(FREE, 1 << 24, 1), FREE_SHELF, "16777216/1");
        EDGE.does("2^-24", Benches::furnished, x -> x.ratio(FREE, 1, 1 << 24), FREE_SHELF, "1/16777216");
        EDGE.denies("2^25", Benches::furnished, x -> x.ratio(FREE, 1 << 25, 1), 4);
        EDGE.denies("2^-25", Benches::furnished, x -> x.ratio(FREE, 1, 1 << 25), 4);
        EDGE.does("2^29 by 2^5", Benches::furnished, x -> x.ratio(FREE, 1 << 29, 1 << 5), FREE_SHELF, "16777216/1");
        EDGE.denies("2^29 by 2^4", Benches::furnished, x -> x.ratio(OCTAVE, 1 << 29, 1 << 4), 4);
        EDGE.denies("2^29", Benches::furnished, x -> x.ratio(OCTAVE, 1 << 29, 1), 4);
        EDGE.denies("2^25 by 3", Benches::furnished, x -> x.ratio(OCTAVE, 1 << 25, 3), 4);
        EDGE.does("3^18", Benches::furnished, x -> x.ratio(FREE, 387420489, 1), FREE_SHELF, "387420489/1");
        EDGE.does("13^8 by 11^8", Benches::furnished, x -> x.ratio(FREE, 815730721, 214358881), FREE_SHELF,
            "815730721/214358881");
    }

    // "(for ratio(): or has another PRIME)": a prime that n and d share is none of the RATIO's.
    private static void ratioOfAnotherPrime() {
        EDGE.denies("17/1", Benches::furnished, x -> x.ratio(FREE, 17, 1), 4);
        EDGE.denies("1/17", Benches::furnished, x -> x.ratio(OCTAVE, 1, 17), 4);
        EDGE.denies("17/19", Benches::furnished, x -> x.ratio(OCTAVE, 17, 19), 4);
        EDGE.denies("34/2", Benches::furnished, x -> x.ratio(OCTAVE, 34, 2), 4);
        EDGE.denies("2/34", Benches::furnished, x -> x.ratio(OCTAVE, 2, 34), 4);
        EDGE.denies("289/17", Benches::furnished, x -> x.ratio(OCTAVE, 289, 17), 4);
        EDGE.denies("17/289", Benches::furnished, x -> x.ratio(OCTAVE, 17, 289), 4);
        EDGE.denies("a great prime", Benches::furnished, x -> x.ratio(OCTAVE, 999999937, 1), 4);
        EDGE.does("17/17", Benches::furnished, x -> x.ratio(FREE, 17, 17), FREE_SHELF, "1/1");
        EDGE.does("51/34", Benches::furnished, x -> x.ratio(FREE, 51, 34), FREE_SHELF, "3/2");
        EDGE.does("289/578", Benches::furnished, x -> x.ratio(FREE, 289, 578), FREE_SHELF, "1/2");
        EDGE.does("a great prime by itself", Benches::furnished, x -> x.ratio(FREE, 999999937, 999999937), FREE_SHELF,
            "1/1");
        EDGE.does("all six primes", Benches::furnished, x -> x.ratio(FREE, 30030, 1), FREE_SHELF, "30030/1");
        EDGE.does("1 by all six", Benches::furnished, x -> x.ratio(FREE, 1, 30030), FREE_SHELF, "1/30030");
    }

    // Promise 4: "(1, 3, 4)".
    private static void ratioOrder() {
        for (int shelf : Edge.NO_SHELVES) {
            EDGE.denies("ratio, 1 ahead of 3 of n", Benches::furnished, x -> x.ratio(shelf, 0, 1), 1);
            EDGE.denies("ratio, 1 ahead of 3 of d", Benches::furnished, x -> x.ratio(shelf, 1, 0), 1);
            EDGE.denies("ratio, 1 ahead of 4, another prime", Benches::furnished, x -> x.ratio(shelf, 17, 1), 1);
            EDGE.denies("ratio, 1 ahead of 4, far", Benches::furnished, x -> x.ratio(shelf, 1 << 25, 1), 1);
        }
        EDGE.denies("ratio, 3 of d ahead of 4", Benches::furnished, x -> x.ratio(FREE, 17, 0), 3);
        EDGE.denies("ratio, 3 of n ahead of 4", Benches::furnished, x -> x.ratio(FREE, 1000000001, 17), 3);
        EDGE.denies("ratio, 3 ahead of 4, far", Benches::furnished, x -> x.ratio(FREE, 1 << 30, 1), 3);
        EDGE.denies("ratio, 3 of d, far", Benches::furnished, x -> x.ratio(FREE, 1 << 25, -1), 3);
    }

    // Promise 5: "to the power k (-24 .. 24, else 3)".
    private static void timesFromMinus24To24() {
        EDGE.does("power 24", Benches::furnished, x -> x.times(UNISON, FIFTH, 24, FREE), FREE_SHELF,
            State.ratio(-24, 24, 0, 0, 0, 0));
        EDGE.does("power -24", Benches::furnished, x -> x.times(UNISON, FIFTH, -24, FREE), FREE_SHELF,
            State.ratio(24, -24, 0, 0, 0, 0));
        EDGE.does("power 0", Benches::furnished, x -> x.times(FIFTH, HIGH, 0, FREE), FREE_SHELF, "3/2");
        EDGE.does("power 1", Benches::furnished, x -> x.times(FIFTH, OCTAVE, 1, FREE), FREE_SHELF, "3/1");
        EDGE.does("power -1", Benches::furnished, x -> x.times(FIFTH, OCTAVE, -1, FREE), FREE_SHELF, "3/4");
        for (int wrong : new int[] {25, -25, Integer.MAX_VALUE, Integer.MIN_VALUE}) {
            EDGE.denies("power " + wrong, Benches::furnished, x -> x.times(UNISON, UNISON, wrong, FREE), 3);
            EDGE.denies("power " + wrong + " to a full one", Benches::furnished,
                x -> x.times(OCTAVE, UNISON, wrong, FIFTH), 3);
        }
    }

    // "4 what comes would be FAR": 24 comes, 25 does not (each prime is asked in EdgesOfTermsTest).
    private static void timesFar() {
        EDGE.does("3^24 by 2^24", Benches::furnished, x -> x.times(HIGH, OCTAVE, 24, FREE), FREE_SHELF,
            State.ratio(24, 24, 0, 0, 0, 0));
        EDGE.denies("3^25", Benches::furnished, x -> x.times(HIGH, FIFTH, 1, FREE), 4);
        EDGE.denies("2^25", Benches::furnished, x -> x.times(OCTAVE, OCTAVE, 24, FREE), 4);
        EDGE.does("2^24", Benches::furnished, x -> x.times(OCTAVE, OCTAVE, 23, FREE), FREE_SHELF, "16777216/1");
        EDGE.does("2^-24", Benches::furnished, x -> x.times(FALLING, FALLING, 23, FREE), FREE_SHELF, "1/16777216");
        EDGE.denies("2^-25", Benches::furnished, x -> x.times(FALLING, OCTAVE, -24, OCTAVE), 4);
        EDGE.denies("3^600", Benches::furnished, x -> x.times(HIGH, HIGH, 24, HIGH), 4);
        EDGE.denies("3^-552", Benches::furnished, x -> x.times(HIGH, HIGH, -24, FREE), 4);
    }

    // What comes is made of what was there, also where it comes to one of the same shelves.
    private static void timesOntoItself() {
        EDGE.does("to a", Benches::furnished, x -> x.times(FIFTH, OCTAVE, -2, FIFTH), "shelf " + FIFTH, "3/8");
        EDGE.does("to b", Benches::furnished, x -> x.times(FIFTH, OCTAVE, -2, OCTAVE), "shelf " + OCTAVE, "3/8");
        EDGE.does("all the same", Benches::furnished, x -> x.times(FIFTH, FIFTH, 2, FIFTH), "shelf " + FIFTH, "27/8");
        EDGE.does("by its opposite", Benches::furnished, x -> x.times(FIFTH, FIFTH, -1, FIFTH), "shelf " + FIFTH, "1/1");
        EDGE.does("a is b", Benches::furnished, x -> x.times(FIFTH, FIFTH, 1, FREE), FREE_SHELF, "9/4");
    }

    // Promise 5: "(1, 2, 3, 4)".
    private static void timesOrder() {
        for (int shelf : Edge.NO_SHELVES) {
            EDGE.denies("times, 1 of a ahead of 2 of b", Benches::furnished, x -> x.times(shelf, BARE, 1, FREE), 1);
            EDGE.denies("times, 1 of b ahead of 2 of a", Benches::furnished, x -> x.times(BARE, shelf, 1, FREE), 1);
            EDGE.denies("times, 1 of to ahead of 2 of a", Benches::furnished, x -> x.times(BARE, FIFTH, 1, shelf), 1);
            EDGE.denies("times, 1 of to ahead of 2 of b", Benches::furnished, x -> x.times(FIFTH, BARE, 1, shelf), 1);
            EDGE.denies("times, 1 of a ahead of 3", Benches::furnished, x -> x.times(shelf, FIFTH, 25, FREE), 1);
            EDGE.denies("times, 1 of b ahead of 3", Benches::furnished, x -> x.times(FIFTH, shelf, -25, FREE), 1);
            EDGE.denies("times, 1 of to ahead of 3", Benches::furnished, x -> x.times(FIFTH, FIFTH, 25, shelf), 1);
            EDGE.denies("times, 1 of to ahead of 4", Benches::furnished, x -> x.times(HIGH, HIGH, 1, shelf), 1);
        }
        EDGE.denies("times, 2 of a ahead of 3", Benches::furnished, x -> x.times(BARE, FIFTH, 25, FREE), 2);
        EDGE.denies("times, 2 of b ahead of 3", Benches::furnished, x -> x.times(FIFTH, BARE, -25, FREE), 2);
        EDGE.denies("times, 2 of b, power 0", Benches::furnished, x -> x.times(FIFTH, BARE, 0, FREE), 2);
        EDGE.denies("times, 3 ahead of 4", Benches::furnished, x -> x.times(HIGH, HIGH, 25, FREE), 3);
        EDGE.denies("times, 3 ahead of 4", Benches::furnished, x -> x.times(HIGH, HIGH, -25, FREE), 3);
    }

    // Promise 6: "5 of b": b is GREATER than ONE, a may be anything.
    private static void foldIntoOneOrBelow() {
        EDGE.denies("into ONE", Benches::furnished, x -> x.fold(FIFTH, UNISON, FREE), 5);
        EDGE.denies("ONE into ONE", Benches::furnished, x -> x.fold(UNISON, UNISON, FREE), 5);
        EDGE.denies("into below ONE", Benches::furnished, x -> x.fold(FIFTH, FALLING, OCTAVE), 5);
        EDGE.denies("into itself, below ONE", Benches::furnished, x -> x.fold(FALLING, FALLING, OCTAVE), 5);
        EDGE.does("ONE folds", Benches::furnished, x -> x.fold(UNISON, OCTAVE, FREE), FREE_SHELF, "1/1");
        EDGE.does("below ONE folds", Benches::furnished, x -> x.fold(FALLING, FIFTH, FREE), FREE_SHELF, "9/8");
    }

    /** Folds the product of these powers into the octave. */
    private static boolean foldRow(TuneBench x, int... e) {
        x.set(11, e[0], e[1], e[2], e[3], e[4], e[5]);
        return x.fold(11, OCTAVE, FREE);
    }

    // Promise 6, 4: what comes may have 24 and -24, not 25 and -25.
    private static void foldFar() {
        Edge.Recipe recipe = x -> {
            Benches.furnished(x);
            x.set(11, 0, 1, 10, 0, 0, 0);
            x.set(12, 0, 0, 11, 0, 0, 0);
            x.set(13, 0, 0, -10, 0, 0, 0);
            x.set(14, 0, -1, -10, 0, 0, 0);
        };
        EDGE.does("2^-24", recipe, x -> x.fold(11, OCTAVE, FREE), FREE_SHELF, State.ratio(-24, 1, 10, 0, 0, 0));
        EDGE.denies("2^-25", recipe, x -> x.fold(12, OCTAVE, FREE), 4);
        EDGE.does("2^24", recipe, x -> x.fold(13, OCTAVE, FREE), FREE_SHELF, State.ratio(24, 0, -10, 0, 0, 0));
        EDGE.denies("2^25", recipe, x -> x.fold(14, OCTAVE, FIFTH), 4);
        TuneBench x = new TuneBench();
        x.set(OCTAVE, 1, 0, 0, 0, 0, 0);
        EDGE.due("the octaves that are there do not count", foldRow(x, 24, 1, 10, 0, 0, 0) ? 1 : 0, 1);
        EDGE.due("what came", x.exponent(FREE, 0), -24);
        EDGE.due("the octaves that are there do not help", foldRow(x, 24, 0, 11, 0, 0, 0) ? 1 : 0, 0);
        EDGE.due("what came stays", x.exponent(FREE, 1), 1);
        Edge.Recipe tiny = y -> {
            Benches.furnished(y);
            y.set(11, 22, 3, -22, -14, -3, 20);
            y.times(UNISON, 11, y.order(11, UNISON) > 0 ? 1 : -1, 11);
            y.set(12, 24, 24, 24, 24, 24, 24);
            y.set(13, -24, -24, -24, -24, -24, -24);
        };
        EDGE.denies("the greatest into the least period", tiny, y -> y.fold(12, 11, FREE), 4);
        EDGE.denies("the least into the least period", tiny, y -> y.fold(13, 11, FREE), 4);
        EDGE.does("the least into the greatest", tiny, y -> y.fold(13, 12, FREE), FREE_SHELF, "1/1");
        EDGE.does("the least period into the greatest", tiny, y -> y.fold(11, 12, FREE), FREE_SHELF, nearest());
        EDGE.does("ONE into the least period", tiny, y -> y.fold(UNISON, 11, FREE), FREE_SHELF, "1/1");
    }

    // Promise 6, 4, in the period 3/2, which lifts 2 as it lowers 3: 11^2 13^2 is 24 of them and a part, 11^4 is 23.
    private static void foldFarByBothPrimesOfThePeriod() {
        Edge.Recipe recipe = x -> {
            Benches.furnished(x);
            x.set(11, 0, 0, 0, 0, 2, 2);
            x.set(12, 0, 0, 0, 4, 1, 0);
            x.set(13, 0, 0, 0, 0, -4, 0);
            x.set(14, 0, 0, 0, 0, -2, -2);
        };
        EDGE.does("2^24 3^-24", recipe, x -> x.fold(11, FIFTH, FREE), FREE_SHELF, State.ratio(24, -24, 0, 0, 2, 2));
        EDGE.denies("2^25 3^-25", recipe, x -> x.fold(12, FIFTH, FREE), 4);
        EDGE.does("2^-24 3^24", recipe, x -> x.fold(13, FIFTH, FREE), FREE_SHELF, State.ratio(-24, 24, 0, 0, -4, 0));
        EDGE.denies("2^-25 3^25", recipe, x -> x.fold(14, FIFTH, FREE), 4);
        Edge.Recipe begun = x -> {
            recipe.furnish(x);
            x.times(11, OCTAVE, 1, 11);
            x.times(13, OCTAVE, -1, 13);
        };
        EDGE.denies("2^27 3^-26", begun, x -> x.fold(11, FIFTH, FREE), 4);
        EDGE.denies("2^-27 3^26", begun, x -> x.fold(13, FIFTH, FREE), 4);
    }

    // Promise 6, 4, in the period 9/8, where 2, which it has below, grows faster than 3: 8 of them are 2^-24.
    private static void foldFarByThePrimeBelow() {
        Edge.Recipe recipe = x -> {
            Benches.furnished(x);
            x.ratio(11, 9, 8);
            x.ratio(12, 13, 5);
            x.ratio(13, 3, 7);
            x.ratio(14, 5, 13);
        };
        EDGE.does("2^24", recipe, x -> x.fold(12, 11, FREE), FREE_SHELF, State.ratio(24, -16, -1, 0, 0, 1));
        EDGE.denies("2^27", recipe, x -> x.fold(Benches.TWELFTH, 11, FREE), 4);
        EDGE.does("2^-24", recipe, x -> x.fold(13, 11, FREE), FREE_SHELF, State.ratio(-24, 17, 0, -1, 0, 0));
        EDGE.denies("2^-27", recipe, x -> x.fold(14, 11, FREE), 4);
    }

    private static String nearest() {
        int[] row = {22, 3, -22, -14, -3, 20};
        return Model.sign(row) > 0 ? State.ratio(row) : State.ratio(Model.by(new int[6], row, -1));
    }

    private static void foldOntoItself() {
        EDGE.does("to a", Benches::furnished, x -> x.fold(FALLING, FIFTH, FALLING), "shelf " + FALLING, "9/8");
        EDGE.does("to b", Benches::furnished, x -> x.fold(FALLING, FIFTH, FIFTH), "shelf " + FIFTH, "9/8");
        EDGE.does("all the same", Benches::furnished, x -> x.fold(FIFTH, FIFTH, FIFTH), "shelf " + FIFTH, "1/1");
    }

    // Promise 6: "(1, 2, 5 of b, 4; 4 is asked behind 5)".
    private static void foldOrder() {
        for (int shelf : Edge.NO_SHELVES) {
            EDGE.denies("fold, 1 of a ahead of 2 of b", Benches::furnished, x -> x.fold(shelf, BARE, FREE), 1);
            EDGE.denies("fold, 1 of b ahead of 2 of a", Benches::furnished, x -> x.fold(BARE, shelf, FREE), 1);
            EDGE.denies("fold, 1 of to ahead of 2 of a", Benches::furnished, x -> x.fold(BARE, FIFTH, shelf), 1);
            EDGE.denies("fold, 1 of to ahead of 2 of b", Benches::furnished, x -> x.fold(FIFTH, BARE, shelf), 1);
            EDGE.denies("fold, 1 of a ahead of 5", Benches::furnished, x -> x.fold(shelf, UNISON, FREE), 1);
            EDGE.denies("fold, 1 of to ahead of 5", Benches::furnished, x -> x.fold(FIFTH, FALLING, shelf), 1);
            EDGE.denies("fold, 1 of to ahead of 4", Benches::furnished, x -> x.fold(HIGH, OCTAVE, shelf), 1);
        }
        EDGE.denies("fold, 2 of a ahead of 5", Benches::furnished, x -> x.fold(BARE, UNISON, FREE), 2);
        EDGE.denies("fold, 2 of a ahead of 5", Benches::furnished, x -> x.fold(BARE, FALLING, FREE), 2);
        EDGE.denies("fold, 5 ahead of 4", Benches::furnished, x -> x.fold(HIGH, FALLING, FREE), 5);
        EDGE.denies("fold, 5 ahead of 4", Benches::furnished, x -> x.fold(HIGH, UNISON, FREE), 5);
    }

    // Promise 7: "A SHELF has nothing (1, 2)".
    private static void dropTwice() {
        EDGE.does("drop", Benches::furnished, x -> x.drop(FIFTH), "shelf " + FIFTH, State.EMPTY);
        EDGE.does("drop ONE", Benches::furnished, x -> x.drop(UNISON), "shelf " + UNISON, State.EMPTY);
        EDGE.denies("drop of nothing", Benches::furnished, x -> x.drop(BARE), 2);
        Edge.Recipe dropped = x -> {
            Benches.furnished(x);
            x.drop(OCTAVE);
        };
        EDGE.denies("drop twice", dropped, x -> x.drop(OCTAVE), 2);
        EDGE.does("set behind it", dropped, x -> x.set(OCTAVE, 0, 0, 0, 0, 0, 0), "shelf " + OCTAVE, "1/1");
    }

    // Promise 8: "EXPONENT k (0 .. 5, else 3)".
    private static void exponentFrom0To5() {
        Edge.Recipe recipe = x -> {
            Benches.furnished(x);
            x.set(11, 24, -24, 3, -4, 5, -6);
        };
        int[] want = {24, -24, 3, -4, 5, -6};
        for (int k = 0; k < 6; k++) {
            int prime = k;
            EDGE.tells("exponent " + k, recipe, x -> x.exponent(11, prime), want[k]);
        }
        for (int wrong : new int[] {-1, 6, Integer.MAX_VALUE, Integer.MIN_VALUE}) {
            EDGE.refuses("exponent " + wrong, recipe, x -> x.exponent(11, wrong), 3);
        }
    }

    // Promise 8: "STATUS tells NONE from -1".
    private static void exponentOfMinusOne() {
        EDGE.tells("exponent -1", Benches::furnished, x -> x.exponent(FIFTH, 0), -1);
        EDGE.refuses("NONE", Benches::furnished, x -> x.exponent(FIFTH, -1), 3);
    }

    // Promise 8: "(1, 2, 3)".
    private static void exponentOrder() {
        for (int shelf : Edge.NO_SHELVES) {
            EDGE.refuses("exponent, 1 ahead of 3", Benches::furnished, x -> x.exponent(shelf, 6), 1);
            EDGE.refuses("exponent, 1 ahead of 3", Benches::furnished, x -> x.exponent(shelf, -1), 1);
        }
        EDGE.refuses("exponent, 2 ahead of 3", Benches::furnished, x -> x.exponent(BARE, 6), 2);
        EDGE.refuses("exponent, 2 ahead of 3", Benches::furnished, x -> x.exponent(BARE, -1), 2);
    }

    // Promise 9: "1 if GREATER, 0 if it is the same, -2 if it is below".
    private static void orderTells() {
        Edge.Recipe recipe = x -> {
            Benches.furnished(x);
            x.ratio(11, 6, 4);
            x.set(12, 24, 24, 24, 24, 24, 24);
            x.set(13, -24, -24, -24, -24, -24, -24);
        };
        EDGE.tells("3/2, 2", recipe, x -> x.order(FIFTH, OCTAVE), -2);
        EDGE.tells("2, 3/2", recipe, x -> x.order(OCTAVE, FIFTH), 1);
        EDGE.tells("the same on two shelves", recipe, x -> x.order(FIFTH, 11), 0);
        EDGE.tells("the same shelf", recipe, x -> x.order(FIFTH, FIFTH), 0);
        EDGE.tells("ONE and itself", recipe, x -> x.order(UNISON, UNISON), 0);
        EDGE.tells("the greatest, the least", recipe, x -> x.order(12, 13), 1);
        EDGE.tells("the least, the greatest", recipe, x -> x.order(13, 12), -2);
    }

    // Promise 9: "(1, 2)".
    private static void orderOrder() {
        for (int shelf : Edge.NO_SHELVES) {
            EDGE.refuses("order, 1 of a ahead of 2 of b", Benches::furnished, x -> x.order(shelf, BARE), 1);
            EDGE.refuses("order, 1 of b ahead of 2 of a", Benches::furnished, x -> x.order(BARE, shelf), 1);
        }
        EDGE.refuses("order, 2 of both", Benches::furnished, x -> x.order(BARE, BARE), 2);
    }

    private static void dueShown(String told, int... row) {
        String text = State.ratio(row);
        Edge.Recipe recipe = x -> {
            Benches.furnished(x);
            x.set(11, row[0], row[1], row[2], row[3], row[4], row[5]);
        };
        EDGE.changes(told, recipe, x -> x.show(11), text.length(), "OUT", text);
    }

    // Promise 10: "its numerator's digits, /, its denominator's (without a common divisor)".
    private static void showWithoutCommonDivisor() {
        EDGE.changes("ONE", Benches::furnished, x -> x.show(UNISON), 3, "OUT", "1/1");
        EDGE.changes("1/2", Benches::furnished, x -> x.show(FALLING), 3, "OUT", "1/2");
        Edge.Recipe recipe = x -> {
            Benches.furnished(x);
            x.ratio(11, 1000, 810);
        };
        EDGE.changes("1000/810", recipe, x -> x.show(11), 6, "OUT", "100/81");
        dueShown("a milliard", 9, 0, 9, 0, 0, 0);
        dueShown("a milliard less a digit", 8, 0, 8, 0, 0, 0);
        dueShown("10^18", 18, 0, 18, 0, 0, 0);
        dueShown("1 by 10^18", -18, 0, -18, 0, 0, 0);
        dueShown("10^24", 24, 0, 24, 0, 0, 0);
    }

    // Promise 10, the longest and the shortest that there are, one behind the other.
    private static void showTheLongest() {
        dueShown("the greatest", 24, 24, 24, 24, 24, 24);
        dueShown("the least", -24, -24, -24, -24, -24, -24);
        dueShown("long on both sides", 24, -24, 24, -24, 24, -24);
        dueShown("long on both sides", -24, -24, -24, 24, 24, 24);
        Edge.Recipe longFirst = x -> {
            Benches.furnished(x);
            x.set(11, 24, 24, 24, 24, 24, 24);
            x.show(11);
        };
        EDGE.changes("a short one behind a long one", longFirst, x -> x.show(FIFTH), 3, "OUT", "3/2");
    }

    // Promise 10: "(1, 2)": OUT stays.
    private static void showRefusedLeavesOut() {
        for (int shelf : Edge.NO_SHELVES) {
            EDGE.refuses("show, 1", Benches::furnished, x -> x.show(shelf), 1);
        }
        EDGE.refuses("show, 2", Benches::furnished, x -> x.show(BARE), 2);
        EDGE.refuses("show, 2, ahead of any OUT", x -> { }, x -> x.show(0), 2);
    }

    // Promise 11: "Byte k of OUT; NONE if there is none such."
    private static void outFromEndToEnd() {
        TuneBench x = new TuneBench();
        for (int k : new int[] {0, -1, 1, Integer.MAX_VALUE, Integer.MIN_VALUE}) {
            EDGE.due("out(" + k + ") ahead of show()", x.out(k), -1);
        }
        x.ratio(0, 25, 24);
        x.ratio(1, 2, 1);
        EDGE.due("show", x.show(0), 5);
        int[] want = {-1, '2', '5', '/', '2', '4', -1};
        for (int k = -1; k <= 5; k++) {
            EDGE.due("out(" + k + ")", x.out(k), want[k + 1]);
        }
        EDGE.due("out of the greatest number", x.out(Integer.MAX_VALUE), -1);
        EDGE.due("out of the least number", x.out(Integer.MIN_VALUE), -1);
        EDGE.due("out far behind", x.out(1000), -1);
        x.ratio(0, 7, 1);
        EDGE.due("OUT is not its shelf", x.out(1), '5');
        EDGE.due("a shorter one", x.show(1), 3);
        EDGE.due("its last byte", x.out(2), '1');
        EDGE.due("behind it", x.out(3), -1);
        EDGE.due("the last byte that was", x.out(4), -1);
    }
}
