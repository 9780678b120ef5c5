/** The edges of promise 29: where quotients end, where they grow DIM, and what is refused. */
public final class EdgesOfQuotientsTest {
    private static final Edge EDGE = new Edge();
    private static final int OCTAVE = Benches.OCTAVE;
    private static final int FIFTH = Benches.FIFTH;
    private static final int UNISON = Benches.UNISON;
    private static final int FALLING = Benches.FALLING;
    private static final int SYNTONIC = Benches.SYNTONIC;
    private static final int BARE = Benches.BARE;
    private static final int[] NO_QUOTIENTS = {-1, 20, 21, Integer.MAX_VALUE, Integer.MIN_VALUE};

    /** Of each prime, above and below: a, b, k and q, where the power -q - 1 has 200 or -200, and is told. */
    private static final int[][][] TO_200 = {
        {{2, 0, 0, 0, 1, 0}, {0, -2, -3, 3, 3, 0}, {7, 2}}, {{-2, 0, 1, 0, 0, 2}, {3, 0, -2, 0, 3, 0}, {5, 1}},
        {{-1, 0, 1, 2, 0, 0}, {0, -1, 0, 0, 0, 1}, {5, 2}}, {{0, 0, 0, 0, 3, 3}, {2, 2, 1, 0, 1, 0}, {3, 1}},
        {{0, 0, 0, 2, 0, 0}, {0, 0, -2, 2, 1, -1}, {3, 3}}, {{0, 0, 0, 2, 0, 1}, {0, -1, 1, 0, -1, 1}, {3, 9}},
        {{0, 0, 0, 2, 0, 0}, {0, -1, 0, 0, 0, 3}, {7, 1}}, {{0, 1, -1, 2, 0, 0}, {0, 0, 0, 0, 1, 0}, {6, 1}},
        {{0, 0, 0, 0, 0, 3}, {0, 0, 0, 0, 2, -1}, {3, 2}}, {{1, 2, 0, 0, 1, 0}, {0, 0, 0, 0, 0, 2}, {2, 2}}};

    /** Of each prime, above and below: a, b and the first k that is DIM, because of 201 or -201 in one exponent. */
    private static final int[][][] TO_201 = {
        {{3, 0, -1, 1, -1, 0}, {0, 0, 2, 0, 3, 0}, {1}}, {{0, 0, 2, 3, 2, -1}, {-3, -1, 2, 0, 0, 0}, {0}},
        {{0, -1, 0, 0, 0, 1}, {3, 0, 0, -1, 0, 2}, {6}}, {{0, 0, 0, 0, 2, 0}, {0, 3, 0, 0, 2, 0}, {5}},
        {{0, 2, -1, 2, 0, 0}, {0, -1, 3, 0, 2, 0}, {4}}, {{0, 2, 0, 1, 0, 0}, {1, 0, 3, 0, 0, 0}, {3}},
        {{0, 0, 0, 3, 1, 0}, {0, 0, 0, 0, 3, 2}, {3}}, {{-1, 0, 0, 3, 0, 0}, {0, -1, 0, 0, 3, 3}, {4}},
        {{0, 0, -2, 0, 3, -1}, {3, 0, 0, 0, 3, 0}, {5}}, {{3, 0, 0, 0, 0, 2}, {0, 0, 0, 0, 3, 0}, {1}},
        {{0, 0, 3, 1, 0, 0}, {-2, 0, 0, -2, -1, 3}, {0}}, {{0, -2, -1, 0, 0, 3}, {0, 0, 0, 1, 0, 0}, {2}}};

    public static void main(String[] args) {
        kFrom0To19();
        notGreaterThanX();
        noneBehindOne();
        greaterThanOne();
        toldTo200();
        dimFrom201();
        dimBehindDim();
        dimAtTheNearest();
        theLongestWay();
        order();
        EDGE.finish();
    }

    /** The furnished bench with two rows on shelves 11 and 12. */
    private static Edge.Recipe pair(int[] a, int[] b) {
        return x -> {
            Benches.furnished(x);
            x.set(11, a[0], a[1], a[2], a[3], a[4], a[5]);
            x.set(12, b[0], b[1], b[2], b[3], b[4], b[5]);
        };
    }

    private static Edge.Recipe twos(int a, int b) {
        return pair(new int[] {a, 0, 0, 0, 0, 0}, new int[] {b, 0, 0, 0, 0, 0});
    }

    // "QUOTIENT k (0 .. 19, else 3)".
    private static void kFrom0To19() {
        EDGE.tells("k is 0", Benches::furnished, x -> x.quotient(OCTAVE, FIFTH, 0), 1);
        EDGE.tells("k is 19", Benches::furnished, x -> x.quotient(OCTAVE, OCTAVE, 19), -2);
        for (int wrong : NO_QUOTIENTS) {
            EDGE.refuses("k is " + wrong, Benches::furnished, x -> x.quotient(OCTAVE, OCTAVE, wrong), 3);
            EDGE.refuses("k is " + wrong, Benches::furnished, x -> x.quotient(OCTAVE, FIFTH, wrong), 3);
        }
    }

    // "the greatest whole number q for which y to the power q is not GREATER than x": also 0, also the same.
    private static void notGreaterThanX() {
        EDGE.tells("y is greater", Benches::furnished, x -> x.quotient(FIFTH, OCTAVE, 0), 0);
        EDGE.tells("y is the same", Benches::furnished, x -> x.quotient(FIFTH, FIFTH, 0), 1);
        EDGE.tells("y's third power is the same", twos(3, 1), x -> x.quotient(11, 12, 0), 3);
        EDGE.tells("2^24 by 2", twos(24, 1), x -> x.quotient(11, 12, 0), 24);
        EDGE.tells("2 by 2^24", twos(1, 24), x -> x.quotient(11, 12, 0), 0);
        EDGE.tells("2 by 2^24, turned over", twos(1, 24), x -> x.quotient(11, 12, 1), 24);
        // 3^12 is just above 2^19.
        EDGE.tells("just above", pair(new int[] {0, 12, 0, 0, 0, 0}, new int[] {19, 0, 0, 0, 0, 0}),
            x -> x.quotient(11, 12, 0), 1);
        EDGE.tells("just below", pair(new int[] {19, 0, 0, 0, 0, 0}, new int[] {0, 12, 0, 0, 0, 0}),
            x -> x.quotient(11, 12, 0), 0);
    }

    // "where it is ONE there is none behind"; "-2 if there is none such".
    private static void noneBehindOne() {
        for (int k = 1; k <= 19; k++) {
            int place = k;
            EDGE.tells("2, 2: " + k, Benches::furnished, x -> x.quotient(OCTAVE, OCTAVE, place), -2);
            EDGE.tells("2^24, 2: " + k, twos(24, 1), x -> x.quotient(11, 12, place), -2);
        }
        int[] long21By13 = {1, 1, 1, 1, 1, 2, -2, -2};
        for (int k = 0; k < long21By13.length; k++) {
            int place = k;
            EDGE.tells("2^21, 2^13: " + k, twos(21, 13), x -> x.quotient(11, 12, place), long21By13[k]);
        }
        int[] turned = {0, 1, 1, 1, 1, 1, 2, -2, -2};
        for (int k = 0; k < turned.length; k++) {
            int place = k;
            EDGE.tells("2^13, 2^21: " + k, twos(13, 21), x -> x.quotient(11, 12, place), turned[k]);
        }
        int[] all = {24, 24, 24, 24, 24, 24};
        EDGE.tells("the greatest by itself", pair(all, all), x -> x.quotient(11, 12, 0), 1);
        EDGE.tells("the greatest by itself, 1", pair(all, all), x -> x.quotient(11, 12, 1), -2);
        EDGE.tells("the greatest by its 24th part", pair(all, new int[] {1, 1, 1, 1, 1, 1}),
            x -> x.quotient(11, 12, 0), 24);
    }

    // "both GREATER than ONE": "5".
    private static void greaterThanOne() {
        for (int k : new int[] {0, 19}) {
            EDGE.refuses("a is ONE", Benches::furnished, x -> x.quotient(UNISON, FIFTH, k), 5);
            EDGE.refuses("b is ONE", Benches::furnished, x -> x.quotient(FIFTH, UNISON, k), 5);
            EDGE.refuses("a is below ONE", Benches::furnished, x -> x.quotient(FALLING, FIFTH, k), 5);
            EDGE.refuses("b is below ONE", Benches::furnished, x -> x.quotient(FIFTH, FALLING, k), 5);
            EDGE.refuses("both are ONE", Benches::furnished, x -> x.quotient(UNISON, UNISON, k), 5);
            EDGE.refuses("both are below ONE", Benches::furnished, x -> x.quotient(FALLING, FALLING, k), 5);
        }
        int[] above = {-1, -7, 4, 1, 0, 0};
        int[] below = {1, 7, -4, -1, 0, 0};
        EDGE.tells("just above ONE", pair(above, above), x -> x.quotient(11, 12, 0), 1);
        EDGE.refuses("b just below ONE", pair(above, below), x -> x.quotient(11, 12, 0), 5);
        EDGE.refuses("a just below ONE", pair(below, above), x -> x.quotient(11, 12, 0), 5);
    }

    // "They are told as long as no EXPONENT ... is below -200 or above 200": 200 and -200 themselves are told.
    private static void toldTo200() {
        for (int[][] row : TO_200) {
            EDGE.tells("to 200", pair(row[0], row[1]), x -> x.quotient(11, 12, row[2][0]), row[2][1]);
        }
    }

    // "... is below -200 or above 200: behind that they are DIM"; "9 DIM".
    private static void dimFrom201() {
        for (int[][] row : TO_201) {
            int first = row[2][0];
            if (first > 0) {
                EDGE.accepts("ahead of 201", pair(row[0], row[1]), x -> x.quotient(11, 12, first - 1));
            }
            EDGE.refuses("to 201", pair(row[0], row[1]), x -> x.quotient(11, 12, first), 9);
        }
    }

    // "behind that they are DIM": each behind the first, to the last that can be asked for.
    private static void dimBehindDim() {
        for (int[][] row : TO_201) {
            for (int k = row[2][0]; k <= 19; k++) {
                int place = k;
                EDGE.refuses("behind 201", pair(row[0], row[1]), x -> x.quotient(11, 12, place), 9);
            }
        }
        for (int k = 0; k <= 19; k++) {
            int place = k;
            if (k < 6) {
                EDGE.accepts("2, 3/2: " + k, Benches::furnished, x -> x.quotient(OCTAVE, FIFTH, place));
            } else {
                EDGE.refuses("2, 3/2: " + k, Benches::furnished, x -> x.quotient(OCTAVE, FIFTH, place), 9);
            }
        }
    }

    // "a power from 0 to -q - 1": 14/13 moves three exponents by one; its power 200 is reached, 201 is not.
    private static void dimAtTheNearest() {
        int[] small = {1, 0, 0, 1, 0, -1};
        EDGE.tells("q is 199", pair(new int[] {0, 1, 7, 0, 1, 0}, small), x -> x.quotient(11, 12, 0), 199);
        EDGE.refuses("q would be 200", pair(new int[] {0, 7, 0, 0, 3, 0}, small), x -> x.quotient(11, 12, 0), 9);
        EDGE.refuses("far more", Benches::furnished, x -> x.quotient(Benches.HIGH, SYNTONIC, 0), 9);
        int[] nearest = {22, 3, -22, -14, -3, 20};
        int[] least = Model.sign(nearest) > 0 ? nearest : Model.by(new int[6], nearest, -1);
        EDGE.refuses("2 by the nearest to ONE", pair(new int[] {1, 0, 0, 0, 0, 0}, least), x -> x.quotient(11, 12, 0), 9);
        EDGE.tells("the nearest to ONE by 2", pair(least, new int[] {1, 0, 0, 0, 0, 0}), x -> x.quotient(11, 12, 0), 0);
        EDGE.refuses("and then", pair(least, new int[] {1, 0, 0, 0, 0, 0}), x -> x.quotient(11, 12, 1), 9);
    }

    // The greatest quotient that can be told: an exponent goes from 24 to -200, or from -24 to 200, by one at a time.
    private static void theLongestWay() {
        int[] small = {1, 0, 0, 1, 0, -1};
        int longest = 0;
        for (int e = -24; e <= 24; e++) {
            for (int f = -24; f <= 24; f++) {
                int[] row = {24, e, f, 24, 0, -24};
                if (Model.sign(row) > 0) {
                    Model model = new Model();
                    model.set(11, row);
                    model.set(12, small);
                    TuneBench x = new TuneBench();
                    pair(row, small).furnish(x);
                    int want = model.quotient(11, 12, 0);
                    EDGE.due("a way from 24, " + e + ", " + f, x.quotient(11, 12, 0), want);
                    EDGE.due("its STATUS", x.status(), model.status);
                    longest = Math.max(longest, want);
                }
            }
        }
        EDGE.due("the longest of them", longest, 223);
    }

    // Promise 29: "(1, 2, 3, 5, 9)".
    private static void order() {
        for (int shelf : Edge.NO_SHELVES) {
            EDGE.refuses("1 of a ahead of 2 of b", Benches::furnished, x -> x.quotient(shelf, BARE, 0), 1);
            EDGE.refuses("1 of b ahead of 2 of a", Benches::furnished, x -> x.quotient(BARE, shelf, 0), 1);
            EDGE.refuses("1 of a ahead of 3", Benches::furnished, x -> x.quotient(shelf, FIFTH, 20), 1);
            EDGE.refuses("1 of b ahead of 3", Benches::furnished, x -> x.quotient(FIFTH, shelf, -1), 1);
            EDGE.refuses("1 of a ahead of 5", Benches::furnished, x -> x.quotient(shelf, UNISON, 0), 1);
            EDGE.refuses("1 of b ahead of 5", Benches::furnished, x -> x.quotient(UNISON, shelf, 0), 1);
        }
        EDGE.refuses("2 of a ahead of 5 of b", Benches::furnished, x -> x.quotient(BARE, UNISON, 0), 2);
        EDGE.refuses("2 of b ahead of 5 of a", Benches::furnished, x -> x.quotient(UNISON, BARE, 0), 2);
        for (int wrong : NO_QUOTIENTS) {
            EDGE.refuses("2 of a ahead of 3", Benches::furnished, x -> x.quotient(BARE, FIFTH, wrong), 2);
            EDGE.refuses("2 of b ahead of 3", Benches::furnished, x -> x.quotient(FIFTH, BARE, wrong), 2);
            EDGE.refuses("3 ahead of 5 of a", Benches::furnished, x -> x.quotient(UNISON, FIFTH, wrong), 3);
            EDGE.refuses("3 ahead of 5 of b", Benches::furnished, x -> x.quotient(FIFTH, FALLING, wrong), 3);
            EDGE.refuses("3 ahead of 9", Benches::furnished, x -> x.quotient(OCTAVE, SYNTONIC, wrong), 3);
        }
    }
}
