/** Promises 14 to 19: commas, and what they temper out. */
public final class CommasTest {
    private static final Check CHECK = new Check();

    public static void main(String[] args) {
        comma();
        clear();
        rank();
        twist();
        twistOfLargeTables();
        vanishes();
        supports();
        CHECK.finish();
    }

    private static TuneBench withCommas(int[]... rows) {
        TuneBench x = new TuneBench();
        for (int[] e : rows) {
            x.set(0, e[0], e[1], e[2], e[3], e[4], e[5]);
            x.comma(0);
        }
        return x;
    }

    // Promise 14
    private static void comma() {
        TuneBench x = new TuneBench();
        x.ratio(0, 81, 80);
        x.ratio(1, 1, 1);
        x.ratio(2, 1, 2);
        CHECK.due("comma", x.comma(0), 1, x, 0);
        CHECK.due("the same again", x.comma(0), 2, x, 0);
        CHECK.due("below ONE", x.comma(2), 3, x, 0);
        CHECK.due("ONE", x.comma(1), -1, x, 5);
        CHECK.due("2", x.comma(9), -1, x, 2);
        CHECK.due("1", x.comma(16), -1, x, 1);
        CHECK.due("1", x.comma(-1), -1, x, 1);
        x.ratio(0, 128, 125);
        CHECK.due("a comma is not its shelf", x.rank(), 2);
        CHECK.due("comma", x.comma(0), 4, x, 0);
        CHECK.due("comma", x.comma(0), 5, x, 0);
        x.ratio(0, 7, 1);
        CHECK.due("a sixth", x.comma(0), -1, x, 6);
        CHECK.due("5 ahead of 6", x.comma(1), -1, x, 5);
        CHECK.due("2 ahead of 6", x.comma(9), -1, x, 2);
        CHECK.due("it did not come", x.vanishes(0), 0, x, 0);
    }

    // Promise 15
    private static void clear() {
        TuneBench x = new TuneBench();
        x.ratio(0, 81, 80);
        x.comma(0);
        x.comma(0);
        x.drop(9);
        CHECK.due("clear", x.clear(), 2, x, 0);
        CHECK.due("vanishes", x.vanishes(0), 0, x, 0);
        CHECK.due("rank", x.rank(), 0, x, 0);
        CHECK.due("twist", x.twist(), 1, x, 0);
        CHECK.due("supports", x.supports(1), 1, x, 0);
        CHECK.due("clear again", x.clear(), 0, x, 0);
        CHECK.due("comma", x.comma(0), 1, x, 0);
    }

    // Promise 16
    private static void rank() {
        TuneBench x = withCommas(new int[] {-4, 4, -1, 0, 0, 0}, new int[] {7, 0, -3, 0, 0, 0});
        CHECK.due("81/80, 128/125", x.rank(), 2, x, 0);
        x.set(0, 3, 4, -4, 0, 0, 0);
        x.comma(0);
        CHECK.due("648/625 depends on them", x.rank(), 2, x, 0);
        x.set(0, 0, 0, 0, 0, 0, 24);
        x.comma(0);
        CHECK.due("13^24", x.rank(), 3, x, 0);
        x.set(0, 0, 0, 0, 0, 0, -1);
        x.comma(0);
        CHECK.due("1/13", x.rank(), 3, x, 0);
        x = withCommas(new int[] {0, 0, 0, 0, 0, 1}, new int[] {0, 0, 0, 0, 1, 0}, new int[] {0, 0, 0, 1, 0, 0},
            new int[] {0, 0, 1, 0, 0, 0}, new int[] {0, 1, 0, 0, 0, 0});
        CHECK.due("five primes", x.rank(), 5, x, 0);
        x = withCommas(new int[] {2, 4, 6, 8, 10, 12}, new int[] {-3, -6, -9, -12, -15, -18});
        CHECK.due("powers of one interval", x.rank(), 1, x, 0);
    }

    // Promise 17
    private static void twist() {
        TuneBench x = withCommas(new int[] {2, 4, 6, 8, 10, 12});
        CHECK.due("a square", x.twist(), 2, x, 0);
        x.set(0, -3, -6, -9, -12, -15, -18);
        x.comma(0);
        CHECK.due("and a third power: each alone", x.twist(), 1, x, 0);
        x = withCommas(new int[] {0, 24, 0, 0, 0, 0});
        CHECK.due("3^24", x.twist(), 24, x, 0);
        x = withCommas(new int[] {0, -24, 0, 0, 0, 0});
        CHECK.due("3^-24", x.twist(), 24, x, 0);
        x = withCommas(new int[] {3, 4, -4, 0, 0, 0}, new int[] {11, -4, -2, 0, 0, 0});
        CHECK.due("648/625, 2048/2025", x.twist(), 2, x, 0);
        x = withCommas(new int[] {-4, 4, -1, 0, 0, 0}, new int[] {7, 0, -3, 0, 0, 0});
        CHECK.due("81/80, 128/125", x.twist(), 1, x, 0);
        x = withCommas(new int[] {6, 0, 0, 0, 0, 0}, new int[] {0, 10, 0, 0, 0, 0}, new int[] {0, 0, 15, 0, 0, 0});
        CHECK.due("2^6, 3^10, 5^15", x.twist(), 900, x, 0);
        CHECK.due("without commas", new TuneBench().twist(), 1);
    }

    private static void twistOfLargeTables() {
        TuneBench x = withCommas(new int[] {0, 24, 0, 0, 0, 0}, new int[] {0, 0, 24, 0, 0, 0}, new int[] {0, 0, 0, 24, 0, 0},
            new int[] {0, 0, 0, 0, 24, 0}, new int[] {0, 0, 0, 0, 0, 24});
        CHECK.due("five 24th powers", x.twist(), 7962624, x, 0);
        int[][] rows = {{24, -24, -24, -24, 24, 24}, {24, 24, -24, -24, -24, 24}, {24, 24, 24, -24, -24, -24},
            {24, -24, 24, 24, -24, 24}, {24, 24, -24, 24, 24, -24}};
        x = withCommas(rows);
        CHECK.due("five rows of 24 and -24", x.twist(),
            Model.divisorOf(java.util.Arrays.asList(rows), 5).longValueExact(), x, 0);
        CHECK.due("their rank", x.rank(), 5, x, 0);
        x.set(0, -24, 24, 24, 24, 24, 24);
        CHECK.due("a sixth", x.vanishes(0), 0, x, 0);
    }

    // Promise 18
    private static void vanishes() {
        TuneBench x = new TuneBench();
        x.ratio(0, 81, 80);
        x.ratio(1, 1, 1);
        CHECK.due("without commas", x.vanishes(0), 0, x, 0);
        CHECK.due("ONE without commas", x.vanishes(1), 1, x, 0);
        x.times(0, 0, 1, 2);
        x.comma(2);
        CHECK.due("its square is one", x.vanishes(0), 1, x, 0);
        x.times(1, 0, -3, 3);
        CHECK.due("its opposite's third power", x.vanishes(3), 1, x, 0);
        x.ratio(4, 128, 125);
        CHECK.due("another", x.vanishes(4), 0, x, 0);
        x.comma(4);
        x.ratio(5, 648, 625);
        CHECK.due("a product of both", x.vanishes(5), 1, x, 0);
        x.ratio(6, 531441, 524288);
        CHECK.due("the comma of twelve fifths", x.vanishes(6), 1, x, 0);
        x.ratio(7, 225, 224);
        CHECK.due("with another prime", x.vanishes(7), 0, x, 0);
        CHECK.due("2", x.vanishes(9), -1, x, 2);
        CHECK.due("1", x.vanishes(16), -1, x, 1);
        CHECK.due("1", x.vanishes(-1), -1, x, 1);
        CHECK.due("it is no comma then", x.clear(), 2, x, 0);
    }

    // Promise 19
    private static void supports() {
        TuneBench x = withCommas(new int[] {-4, 4, -1, 0, 0, 0});
        CHECK.due("from 13", x.supports(13), 19, x, 0);
        CHECK.due("from 19", x.supports(19), 19, x, 0);
        CHECK.due("from 20", x.supports(20), 24, x, 0);
        CHECK.due("from 99", x.supports(99), 0, x, 0);
        x.set(0, 7, 0, -3, 0, 0, 0);
        x.comma(0);
        CHECK.due("both, from 1", x.supports(1), 12, x, 0);
        CHECK.due("both, from 13", x.supports(13), 24, x, 0);
        x.set(0, 1, 0, 0, 0, 0, 0);
        x.comma(0);
        CHECK.due("2 never is tempered out", x.supports(1), 0, x, 0);
        for (int wrong : new int[] {0, -1, 100, Integer.MAX_VALUE, Integer.MIN_VALUE}) {
            CHECK.due("supports(" + wrong + ")", x.supports(wrong), -1, x, 3);
        }
        CHECK.due("without commas", new TuneBench().supports(99), 99);
    }
}
