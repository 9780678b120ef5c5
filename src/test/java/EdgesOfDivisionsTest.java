/** The edges of promises 12 and 13: divisions 1 to 99, and the steps of intervals by them. */
public final class EdgesOfDivisionsTest {
    private static final Edge EDGE = new Edge();
    private static final int[] NO_DIVISIONS = {0, -1, 100, Integer.MAX_VALUE, Integer.MIN_VALUE};
    private static final int[] NO_PRIMES = {-1, 6, Integer.MAX_VALUE, Integer.MIN_VALUE};
    private static final int FIFTH = Benches.FIFTH;
    private static final int BARE = Benches.BARE;

    public static void main(String[] args) {
        mapFrom1To99();
        mapOfPrimes0To5();
        mapOfBothWrong();
        mapOfTwoIsTheDivision();
        mapOfNearlyHalves();
        stepsFrom1To99();
        stepsOfMinusOne();
        stepsOfTheGreatest();
        stepsOrder();
        EDGE.finish();
    }

    // "a DIVISION n (1 to 99)".
    private static void mapFrom1To99() {
        int[] first = {1, 2, 2, 3, 3, 4};
        int[] last = {99, 157, 230, 278, 342, 366};
        for (int k = 0; k < 6; k++) {
            int prime = k;
            EDGE.tells("map(1, " + k + ")", Benches::furnished, x -> x.map(1, prime), first[k]);
            EDGE.tells("map(99, " + k + ")", Benches::furnished, x -> x.map(99, prime), last[k]);
            for (int wrong : NO_DIVISIONS) {
                EDGE.refuses("map(" + wrong + ", " + k + ")", Benches::furnished, x -> x.map(wrong, prime), 3);
            }
        }
    }

    // "PRIME k (0 .. 5)".
    private static void mapOfPrimes0To5() {
        for (int division : new int[] {1, 12, 99}) {
            for (int wrong : NO_PRIMES) {
                EDGE.refuses("map(" + division + ", " + wrong + ")", Benches::furnished, x -> x.map(division, wrong), 3);
            }
        }
    }

    private static void mapOfBothWrong() {
        EDGE.refuses("map(0, 6)", Benches::furnished, x -> x.map(0, 6), 3);
        EDGE.refuses("map(100, -1)", Benches::furnished, x -> x.map(100, -1), 3);
    }

    // "for 2 it is n".
    private static void mapOfTwoIsTheDivision() {
        TuneBench x = new TuneBench();
        for (int division = 1; division <= 99; division++) {
            EDGE.due("map(" + division + ", 0)", x.map(division, 0), division);
        }
    }

    // "the whole number that is nearest": those that are nearest to a half, above and below it.
    private static void mapOfNearlyHalves() {
        EDGE.tells("169.50075", Benches::furnished, x -> x.map(73, 2), 170);
        EDGE.tells("18.50220", Benches::furnished, x -> x.map(5, 5), 19);
        EDGE.tells("36.49561", Benches::furnished, x -> x.map(13, 3), 36);
        EDGE.tells("269.50607", Benches::furnished, x -> x.map(96, 3), 270);
        EDGE.tells("74.49324", Benches::furnished, x -> x.map(47, 1), 74);
        EDGE.tells("9.50978", Benches::furnished, x -> x.map(6, 1), 10);
    }

    // Promise 13, of the least and the greatest DIVISION.
    private static void stepsFrom1To99() {
        EDGE.tells("3/2 in 1", Benches::furnished, x -> x.steps(FIFTH, 1), 1);
        EDGE.tells("3/2 in 99", Benches::furnished, x -> x.steps(FIFTH, 99), 58);
        EDGE.tells("ONE in 99", Benches::furnished, x -> x.steps(Benches.UNISON, 99), 0);
        for (int wrong : NO_DIVISIONS) {
            EDGE.refuses("steps in " + wrong, Benches::furnished, x -> x.steps(FIFTH, wrong), 3);
        }
    }

    // Promise 13: "STATUS tells NONE from -1".
    private static void stepsOfMinusOne() {
        EDGE.tells("1/2 in 1", Benches::furnished, x -> x.steps(Benches.FALLING, 1), -1);
        EDGE.refuses("NONE", Benches::furnished, x -> x.steps(Benches.FALLING, 0), 3);
    }

    private static void stepsOfTheGreatest() {
        Edge.Recipe recipe = x -> {
            Benches.furnished(x);
            x.set(11, 24, 24, 24, 24, 24, 24);
            x.set(12, -24, -24, -24, -24, -24, -24);
        };
        int all = 24 * (99 + 157 + 230 + 278 + 342 + 366);
        EDGE.tells("the greatest in 99", recipe, x -> x.steps(11, 99), all);
        EDGE.tells("the least in 99", recipe, x -> x.steps(12, 99), -all);
    }

    // Promise 13: "(1, 2, 3)".
    private static void stepsOrder() {
        for (int wrong : NO_DIVISIONS) {
            for (int shelf : Edge.NO_SHELVES) {
                EDGE.refuses("steps, 1 ahead of 3", Benches::furnished, x -> x.steps(shelf, wrong), 1);
            }
            EDGE.refuses("steps, 2 ahead of 3", Benches::furnished, x -> x.steps(BARE, wrong), 2);
        }
    }
}
