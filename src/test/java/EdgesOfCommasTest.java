/** The edges of promises 14 to 19: none, five, one too many; what vanishes always; the last division. */
public final class EdgesOfCommasTest {
    private static final Edge EDGE = new Edge();
    private static final int FIFTH = Benches.FIFTH;
    private static final int UNISON = Benches.UNISON;
    private static final int SYNTONIC = Benches.SYNTONIC;
    private static final int DIESIS = Benches.DIESIS;
    private static final int BARE = Benches.BARE;

    public static void main(String[] args) {
        atMostFive();
        fiveAgainBehindClear();
        noneOfThemOne();
        belowOneIsOne();
        theSameAgainIsOneMore();
        commaIsNotItsShelf();
        commaOrder();
        clearTellsHowMany();
        rankFromNothingToFive();
        rankAtMost();
        twistWithoutCommas();
        twistOfLessThanAll();
        twistOfLargeTables();
        oneVanishesAlways();
        vanishesByAPower();
        vanishesInLargeTables();
        vanishesOrder();
        supportsFrom1To99();
        supportsTheLastDivision();
        supportsNone();
        supportsEach();
        EDGE.finish();
    }

    /** The plain bench with these commas. */
    private static Edge.Recipe commas(int[]... rows) {
        return x -> {
            Benches.plain(x);
            for (int[] e : rows) {
                x.set(Benches.FREE, e[0], e[1], e[2], e[3], e[4], e[5]);
                x.comma(Benches.FREE);
            }
            x.drop(Benches.FREE);
        };
    }

    // "At most five INTERVALS"; promise 14, 6: the fifth comes, the sixth does not.
    private static void atMostFive() {
        TuneBench x = new TuneBench();
        Benches.plain(x);
        for (int many = 1; many <= 5; many++) {
            EDGE.due("comma " + many, x.comma(many % 2 == 0 ? SYNTONIC : FIFTH), many);
            EDGE.due("STATUS of comma " + many, x.status(), 0);
        }
        EDGE.due("a sixth", x.comma(DIESIS), -1);
        EDGE.due("STATUS of a sixth", x.status(), 6);
        EDGE.due("how many there were", x.clear(), 5);
        EDGE.refuses("a sixth", Benches::fullOfCommas, y -> y.comma(DIESIS), 6);
        EDGE.refuses("a sixth, there already", Benches::fullOfCommas, y -> y.comma(SYNTONIC), 6);
        EDGE.refuses("a sixth, of another prime", y -> {
            Benches.fullOfCommas(y);
            y.ratio(11, 13, 8);
        }, y -> y.comma(11), 6);
    }

    // Promise 15 makes room for five again.
    private static void fiveAgainBehindClear() {
        TuneBench x = new TuneBench();
        Benches.fullOfCommas(x);
        EDGE.due("clear", x.clear(), 5);
        for (int many = 1; many <= 5; many++) {
            EDGE.due("comma " + many + " behind clear", x.comma(SYNTONIC), many);
        }
        EDGE.due("a sixth behind clear", x.comma(SYNTONIC), -1);
        EDGE.due("its STATUS", x.status(), 6);
        EDGE.due("the rank is of the new ones", x.rank(), 1);
    }

    // "none of them ONE"; "5 ... (a COMMA: that is ONE)".
    private static void noneOfThemOne() {
        EDGE.refuses("ONE", Benches::plain, x -> x.comma(UNISON), 5);
        EDGE.refuses("ONE among others", Benches::furnished, x -> x.comma(UNISON), 5);
        EDGE.refuses("ONE made by dividing", x -> {
            Benches.furnished(x);
            x.times(FIFTH, FIFTH, -1, 11);
        }, x -> x.comma(11), 5);
    }

    // "(a COMMA: that is ONE)": below ONE is no fault here.
    private static void belowOneIsOne() {
        EDGE.changes("1/2", Benches::plain, x -> x.comma(Benches.FALLING), 1, "commas",
            "rank 1, twist 1, vanishing 0 0 0 0 0 0 0 1, supported by 0, of 1");
        for (int prime = 0; prime < 6; prime++) {
            for (int exponent : new int[] {1, -1, 24, -24}) {
                int[] e = new int[6];
                e[prime] = exponent;
                EDGE.accepts(exponent + " of prime " + prime, Benches::furnished, x -> {
                    x.set(11, e[0], e[1], e[2], e[3], e[4], e[5]);
                    return x.comma(11);
                });
            }
        }
    }

    private static void theSameAgainIsOneMore() {
        TuneBench x = new TuneBench();
        Benches.plain(x);
        EDGE.due("a comma", x.comma(SYNTONIC), 1);
        EDGE.due("the same again", x.comma(SYNTONIC), 2);
        EDGE.due("its rank", x.rank(), 1);
        EDGE.due("clear", x.clear(), 2);
    }

    private static void commaIsNotItsShelf() {
        TuneBench x = new TuneBench();
        Benches.plain(x);
        x.comma(SYNTONIC);
        x.ratio(SYNTONIC, 7, 1);
        EDGE.due("what is on its shelf now", x.vanishes(SYNTONIC), 0);
        x.ratio(SYNTONIC, 80, 81);
        EDGE.due("the comma's opposite", x.vanishes(SYNTONIC), 1);
        x.drop(SYNTONIC);
        EDGE.due("rank", x.rank(), 1);
    }

    // Promise 14: "(1, 2, 5, 6)".
    private static void commaOrder() {
        for (int shelf : Edge.NO_SHELVES) {
            EDGE.refuses("comma, 1", Benches::furnished, x -> x.comma(shelf), 1);
            EDGE.refuses("comma, 1 ahead of 6", Benches::fullOfCommas, x -> x.comma(shelf), 1);
        }
        EDGE.refuses("comma, 2", Benches::furnished, x -> x.comma(BARE), 2);
        EDGE.refuses("comma, 2 ahead of 6", Benches::fullOfCommas, x -> x.comma(BARE), 2);
        EDGE.refuses("comma, 5 ahead of 6", Benches::fullOfCommas, x -> x.comma(UNISON), 5);
    }

    // Promise 15: "There are no COMMAS: how many there were."
    private static void clearTellsHowMany() {
        String none = "rank 0, twist 1, vanishing 0 0 0 0 0 0 0 0, supported by 1, of 0";
        EDGE.changes("clear of none", Benches::plain, x -> x.clear(), 0, "commas", none);
        EDGE.changes("clear of two", Benches::furnished, x -> x.clear(), 2, "commas", none);
        EDGE.changes("clear of five", Benches::fullOfCommas, x -> x.clear(), 5, "commas", none);
        TuneBench x = new TuneBench();
        Benches.furnished(x);
        x.clear();
        EDGE.due("clear twice", x.clear(), 0);
    }

    // "RANK is how many of them can be chosen ...": 0 to 5.
    private static void rankFromNothingToFive() {
        int[][] primes = {{0, 0, 0, 0, 0, 1}, {0, 0, 0, 0, -24, 0}, {0, 0, 0, 5, 0, 0}, {0, 0, 1, 0, 0, 0},
            {1, 0, 0, 0, 0, 0}};
        for (int many = 0; many <= 5; many++) {
            EDGE.tells("rank of " + many, commas(java.util.Arrays.copyOf(primes, many)), x -> x.rank(), many);
        }
    }

    // "... so that no product of powers of these (whole, not all 0) is ONE, at most".
    private static void rankAtMost() {
        int[] comma = {-4, 4, -1, 0, 0, 0};
        EDGE.tells("the same five times", commas(comma, comma, comma, comma, comma), x -> x.rank(), 1);
        EDGE.tells("a square and a third power", commas(new int[] {2, 4, 6, 8, 10, 12},
            new int[] {-3, -6, -9, -12, -15, -18}), x -> x.rank(), 1);
        EDGE.tells("the first two are alike", commas(comma, comma, new int[] {7, 0, -3, 0, 0, 0}), x -> x.rank(), 2);
        EDGE.tells("the last is a product", commas(comma, new int[] {7, 0, -3, 0, 0, 0}, new int[] {3, 4, -4, 0, 0, 0}),
            x -> x.rank(), 2);
        EDGE.tells("five of two primes", commas(new int[] {1, 0, 0, 0, 0, 0}, new int[] {0, 1, 0, 0, 0, 0},
            new int[] {1, 1, 0, 0, 0, 0}, new int[] {2, -1, 0, 0, 0, 0}, new int[] {24, 24, 0, 0, 0, 0}),
            x -> x.rank(), 2);
        EDGE.tells("a product, where 2 is to the power -1", commas(new int[] {-1, 1, 0, 0, 0, 0},
            new int[] {-1, 2, 1, 0, 0, 0}, new int[] {-2, 3, 1, 0, 0, 0}), x -> x.rank(), 2);
        EDGE.tells("a product by half powers", commas(new int[] {2, 0, 0, 0, 0, 0}, new int[] {0, 2, 0, 0, 0, 0},
            new int[] {1, 1, 0, 0, 0, 0}), x -> x.rank(), 2);
    }

    // "(without COMMAS 1)".
    private static void twistWithoutCommas() {
        EDGE.tells("without commas", Benches::plain, x -> x.twist(), 1);
        TuneBench x = new TuneBench();
        Benches.plain(x);
        x.set(11, 24, 0, 0, 0, 0, 0);
        x.comma(11);
        EDGE.due("of 2^24", x.twist(), 24);
        x.clear();
        EDGE.due("behind clear", x.twist(), 1);
    }

    // "of each choice of RANK COMMAS and RANK PRIMES": where there are more commas than the rank, each choice counts.
    private static void twistOfLessThanAll() {
        EDGE.tells("2^24", commas(new int[] {24, 0, 0, 0, 0, 0}), x -> x.twist(), 24);
        EDGE.tells("2^-24", commas(new int[] {-24, 0, 0, 0, 0, 0}), x -> x.twist(), 24);
        EDGE.tells("2^24, 2^18", commas(new int[] {24, 0, 0, 0, 0, 0}, new int[] {18, 0, 0, 0, 0, 0}), x -> x.twist(), 6);
        EDGE.tells("2^24, 2^18, 2^-20", commas(new int[] {24, 0, 0, 0, 0, 0}, new int[] {18, 0, 0, 0, 0, 0},
            new int[] {-20, 0, 0, 0, 0, 0}), x -> x.twist(), 2);
        EDGE.tells("one comma, each prime counts", commas(new int[] {24, 0, 0, 0, 0, 18}), x -> x.twist(), 6);
        EDGE.tells("2^2 13^3", commas(new int[] {2, 0, 0, 0, 0, 3}), x -> x.twist(), 1);
        EDGE.tells("2^2, 3^2", commas(new int[] {2, 0, 0, 0, 0, 0}, new int[] {0, 2, 0, 0, 0, 0}), x -> x.twist(), 4);
        EDGE.tells("2^2, 3^2, 6", commas(new int[] {2, 0, 0, 0, 0, 0}, new int[] {0, 2, 0, 0, 0, 0},
            new int[] {1, 1, 0, 0, 0, 0}), x -> x.twist(), 2);
        EDGE.tells("13^24 behind four of two primes", commas(new int[] {2, 0, 0, 0, 0, 0}, new int[] {4, 0, 0, 0, 0, 0},
            new int[] {0, 0, 0, 0, 0, 6}, new int[] {0, 0, 0, 0, 0, 9}, new int[] {0, 0, 0, 0, 0, 24}),
            x -> x.twist(), 6);
    }

    private static final int[][] LARGE = {{24, -24, -24, -24, 24, 24}, {24, 24, -24, -24, -24, 24},
        {24, 24, 24, -24, -24, -24}, {24, -24, 24, 24, -24, 24}, {24, 24, -24, 24, 24, -24}};

    // The greatest numbers that the table can hold.
    private static void twistOfLargeTables() {
        EDGE.tells("five 24th powers", commas(new int[] {24, 0, 0, 0, 0, 0}, new int[] {0, 24, 0, 0, 0, 0},
            new int[] {0, 0, 0, 24, 0, 0}, new int[] {0, 0, 0, 0, -24, 0}, new int[] {0, 0, 0, 0, 0, 24}),
            x -> x.twist(), 7962624);
        long large = Model.divisorOf(java.util.Arrays.asList(LARGE), 5).longValueExact();
        EDGE.tells("five rows of 24 and -24", commas(LARGE), x -> x.twist(), large);
        EDGE.tells("their rank", commas(LARGE), x -> x.rank(), 5);
    }

    // "(ONE vanishes always)".
    private static void oneVanishesAlways() {
        EDGE.tells("ONE without commas", Benches::plain, x -> x.vanishes(UNISON), 1);
        EDGE.tells("ONE with two", Benches::furnished, x -> x.vanishes(UNISON), 1);
        EDGE.tells("ONE with five", Benches::fullOfCommas, x -> x.vanishes(UNISON), 1);
        EDGE.tells("another one without commas", Benches::plain, x -> x.vanishes(SYNTONIC), 0);
        EDGE.tells("a prime without commas", Benches::plain, x -> x.vanishes(Benches.OCTAVE), 0);
    }

    // "if some power of it (not 0) is a product of powers of the COMMAS".
    private static void vanishesByAPower() {
        Edge.Recipe high = x -> {
            Benches.plain(x);
            x.comma(Benches.HIGH);
        };
        EDGE.tells("3 by 3^24", high, x -> x.vanishes(Benches.TWELFTH), 1);
        EDGE.tells("3^24 by 3^24", high, x -> x.vanishes(Benches.HIGH), 1);
        EDGE.tells("3/2 by 3^24", high, x -> x.vanishes(FIFTH), 0);
        Edge.Recipe low = x -> {
            Benches.plain(x);
            x.comma(Benches.FALLING);
        };
        EDGE.tells("2 by 1/2", low, x -> x.vanishes(Benches.OCTAVE), 1);
        EDGE.tells("3 by 1/2", low, x -> x.vanishes(Benches.TWELFTH), 0);
        EDGE.tells("a comma itself", Benches::furnished, x -> x.vanishes(DIESIS), 1);
        Edge.Recipe product = x -> {
            Benches.furnished(x);
            x.ratio(11, 531441, 524288);
            x.ratio(12, 225, 224);
        };
        EDGE.tells("a product of powers", product, x -> x.vanishes(11), 1);
        EDGE.tells("another prime", product, x -> x.vanishes(12), 0);
    }

    private static void vanishesInLargeTables() {
        Edge.Recipe large = x -> {
            commas(LARGE).furnish(x);
            int[] sum = Model.by(LARGE[1], LARGE[0], -1);
            x.set(11, sum[0] / 2, sum[1] / 2, sum[2] / 2, sum[3] / 2, sum[4] / 2, sum[5] / 2);
            int[] last = LARGE[4];
            x.set(12, last[0], last[1], last[2], last[3], last[4], last[5]);
            x.set(13, last[0], last[1] - 1, last[2], last[3], last[4], last[5]);
            x.set(14, -24, 24, 24, 24, 24, 24);
        };
        EDGE.tells("half of a difference", large, x -> x.vanishes(11), 1);
        EDGE.tells("the last", large, x -> x.vanishes(12), 1);
        EDGE.tells("beside the last", large, x -> x.vanishes(13), 0);
        EDGE.tells("a sixth", large, x -> x.vanishes(14), 0);
        EDGE.tells("2, which they make", large, x -> x.vanishes(Benches.OCTAVE), 1);
        EDGE.tells("3, which they do not", large, x -> x.vanishes(Benches.TWELFTH), 0);
        int[][] crooked = new int[5][6];
        for (int i = 0; i < 5; i++) {
            for (int k = 0; k < 6; k++) {
                crooked[i][k] = (7 * i + 5) * (k + 3) * (k + i + 1) % 49 - 24;
            }
        }
        EDGE.tells("crooked ones: rank", commas(crooked), x -> x.rank(), 5);
        for (int[] e : crooked) {
            Edge.Recipe recipe = x -> {
                commas(crooked).furnish(x);
                x.set(11, e[0], e[1], e[2], e[3], e[4], e[5]);
                x.set(12, -e[0], -e[1], -e[2], -e[3], -e[4], -e[5]);
            };
            EDGE.tells("a crooked one", recipe, x -> x.vanishes(11), 1);
            EDGE.tells("its opposite", recipe, x -> x.vanishes(12), 1);
            EDGE.tells("beside them", recipe, x -> x.vanishes(Benches.OCTAVE), 0);
        }
    }

    // Promise 18: "(1, 2)".
    private static void vanishesOrder() {
        for (int shelf : Edge.NO_SHELVES) {
            EDGE.refuses("vanishes, 1", Benches::furnished, x -> x.vanishes(shelf), 1);
            EDGE.refuses("vanishes, 1, without commas", Benches::plain, x -> x.vanishes(shelf), 1);
        }
        EDGE.refuses("vanishes, 2", Benches::furnished, x -> x.vanishes(BARE), 2);
        EDGE.refuses("vanishes, 2, without commas", Benches::plain, x -> x.vanishes(BARE), 2);
    }

    // Promise 19: "from one (1 .. 99, else 3) on".
    private static void supportsFrom1To99() {
        EDGE.tells("without commas, from 1", Benches::plain, x -> x.supports(1), 1);
        EDGE.tells("without commas, from 50", Benches::plain, x -> x.supports(50), 50);
        EDGE.tells("without commas, from 99", Benches::plain, x -> x.supports(99), 99);
        for (int wrong : new int[] {0, -1, 100, Integer.MAX_VALUE, Integer.MIN_VALUE}) {
            EDGE.refuses("without commas, from " + wrong, Benches::plain, x -> x.supports(wrong), 3);
            EDGE.refuses("from " + wrong, Benches::furnished, x -> x.supports(wrong), 3);
        }
        EDGE.tells("81/80 and 128/125, from 12", Benches::furnished, x -> x.supports(12), 12);
        EDGE.tells("81/80 and 128/125, from 13", Benches::furnished, x -> x.supports(13), 24);
        int[] fourth = {-2, 1, 0, 0, 0, 0};
        EDGE.tells("3/4 from 1", commas(fourth), x -> x.supports(1), 1);
        EDGE.tells("3/4 from 2", commas(fourth), x -> x.supports(2), 0);
    }

    // "The least DIVISION": the last that there is.
    private static void supportsTheLastDivision() {
        Edge.Recipe by99 = commas(new int[] {1, -1, -2, -2, 1, 2}, new int[] {-1, 3, -2, -1, 0, 1},
            new int[] {2, 0, -2, 2, -3, 2});
        EDGE.tells("by 99 alone, from 1", by99, x -> x.supports(1), 99);
        EDGE.tells("by 99 alone, from 98", by99, x -> x.supports(98), 99);
        EDGE.tells("by 99 alone, from 99", by99, x -> x.supports(99), 99);
    }

    // "0 if there is none to 99".
    private static void supportsNone() {
        Edge.Recipe by98 = commas(new int[] {2, -3, 2, -2, 0, 1}, new int[] {1, 2, -2, 0, -2, 2},
            new int[] {-2, -1, 1, 3, -1, -1});
        EDGE.tells("by 98 alone, from 1", by98, x -> x.supports(1), 98);
        EDGE.tells("by 98 alone, from 98", by98, x -> x.supports(98), 98);
        EDGE.tells("by 98 alone, from 99", by98, x -> x.supports(99), 0);
        EDGE.tells("2 is never 0 steps", commas(new int[] {1, 0, 0, 0, 0, 0}), x -> x.supports(1), 0);
    }

    // "if the STEPS of each are 0": also of the first, of the last, of one between.
    private static void supportsEach() {
        int[] by12 = {-4, 4, -1, 0, 0, 0};
        int[] never = {1, 0, 0, 0, 0, 0};
        EDGE.tells("three", commas(by12, by12, by12), x -> x.supports(6), 7);
        EDGE.tells("not the first", commas(never, by12, by12), x -> x.supports(6), 0);
        EDGE.tells("not the second", commas(by12, never, by12), x -> x.supports(6), 0);
        EDGE.tells("not the last", commas(by12, by12, by12, by12, never), x -> x.supports(6), 0);
    }
}
