/** Promise 29: how two intervals measure one another. */
public final class QuotientsTest {
    private static final Check CHECK = new Check();

    public static void main(String[] args) {
        known();
        endings();
        dim();
        dimAtTheEdge();
        refused();
        CHECK.finish();
    }

    private static void known() {
        TuneBench x = new TuneBench();
        x.ratio(0, 2, 1);
        x.ratio(1, 3, 2);
        // log 2 by log 3/2: 12, 41 and 53 are denominators of its parts.
        int[] want = {1, 1, 2, 2, 3, 1};
        for (int k = 0; k < want.length; k++) {
            CHECK.due("2, 3/2: " + k, x.quotient(0, 1, k), want[k], x, 0);
        }
        CHECK.due("3/2, 2: 0", x.quotient(1, 0, 0), 0, x, 0);
        CHECK.due("3/2, 2: 1", x.quotient(1, 0, 1), 1, x, 0);
        CHECK.due("3/2, 2: 3", x.quotient(1, 0, 3), 2, x, 0);
        CHECK.due("shelves stay", Check.shown(x, 0), "2/1");
        CHECK.due("shelves stay", Check.shown(x, 1), "3/2");
    }

    private static void endings() {
        TuneBench x = new TuneBench();
        x.ratio(0, 2, 1);
        x.ratio(1, 8, 1);
        x.ratio(2, 32, 1);
        CHECK.due("2, 2", x.quotient(0, 0, 0), 1, x, 0);
        CHECK.due("2, 2: none", x.quotient(0, 0, 1), -2, x, 0);
        CHECK.due("2, 2: none", x.quotient(0, 0, 19), -2, x, 0);
        CHECK.due("8, 2", x.quotient(1, 0, 0), 3, x, 0);
        CHECK.due("8, 2: none", x.quotient(1, 0, 1), -2, x, 0);
        int[] want = {1, 1, 2, -2, -2};
        for (int k = 0; k < want.length; k++) {
            CHECK.due("32, 8: " + k, x.quotient(2, 1, k), want[k], x, 0);
        }
        CHECK.due("2, 8: 0", x.quotient(0, 1, 0), 0, x, 0);
        CHECK.due("2, 8: 1", x.quotient(0, 1, 1), 3, x, 0);
        CHECK.due("2, 8: 2", x.quotient(0, 1, 2), -2, x, 0);
    }

    private static void dim() {
        TuneBench x = new TuneBench();
        x.ratio(0, 2, 1);
        x.ratio(1, 3, 2);
        CHECK.due("2, 3/2: the last that is told", x.quotient(0, 1, 5), 1, x, 0);
        CHECK.due("2, 3/2: dim", x.quotient(0, 1, 6), -1, x, 9);
        CHECK.due("2, 3/2: dim behind it", x.quotient(0, 1, 19), -1, x, 9);
        x.ratio(2, 4375, 4374);
        CHECK.due("2, 4375/4374: dim at once", x.quotient(0, 2, 0), -1, x, 9);
        CHECK.due("4375/4374, 2", x.quotient(2, 0, 0), 0, x, 0);
        CHECK.due("4375/4374, 2: dim", x.quotient(2, 0, 1), -1, x, 9);
    }

    /** Each power of 13/14 moves 2, 7 and 13 by one: the power -q - 1 may be 200, and no more. */
    private static void dimAtTheEdge() {
        TuneBench x = new TuneBench();
        x.ratio(0, 14, 13);
        x.set(1, 0, 1, 4, 0, 3, 0);
        CHECK.due("q is 198", x.quotient(1, 0, 0), 198, x, 0);
        x.set(1, 0, 1, 7, 0, 1, 0);
        CHECK.due("q is 199", x.quotient(1, 0, 0), 199, x, 0);
        x.set(1, 0, 4, 5, 0, 1, 0);
        CHECK.due("q would be 200", x.quotient(1, 0, 0), -1, x, 9);
        x.set(1, 0, 7, 0, 0, 3, 0);
        CHECK.due("q would be 200", x.quotient(1, 0, 0), -1, x, 9);
        // With 13 on it the exponents begin elsewhere: 2 and 7 end at -200 or -201, 13 behind 200.
        for (int e = -24; e <= 24; e++) {
            for (int f = 0; f <= 8; f++) {
                int[] row = {0, 4, f, 0, 1, e};
                Model model = new Model();
                model.set(0, new int[] {1, 0, 0, 1, 0, -1});
                model.set(1, row);
                x.set(1, row[0], row[1], row[2], row[3], row[4], row[5]);
                CHECK.due("5^" + f + " 13^" + e, x.quotient(1, 0, 0), model.quotient(1, 0, 0), x, model.status);
            }
        }
    }

    private static void refused() {
        TuneBench x = new TuneBench();
        x.ratio(0, 2, 1);
        x.ratio(1, 1, 1);
        x.ratio(2, 1, 2);
        CHECK.due("5 of ONE", x.quotient(0, 1, 0), -1, x, 5);
        CHECK.due("5 of ONE", x.quotient(1, 0, 0), -1, x, 5);
        CHECK.due("5 of below ONE", x.quotient(0, 2, 0), -1, x, 5);
        CHECK.due("5 of below ONE", x.quotient(2, 0, 0), -1, x, 5);
        CHECK.due("3", x.quotient(0, 0, 20), -1, x, 3);
        CHECK.due("3 ahead of 5", x.quotient(0, 1, -1), -1, x, 3);
        CHECK.due("2 ahead of 3", x.quotient(0, 9, 20), -1, x, 2);
        CHECK.due("2 ahead of 3", x.quotient(9, 0, 20), -1, x, 2);
        CHECK.due("1 ahead of 2", x.quotient(9, 16, 20), -1, x, 1);
        CHECK.due("1 ahead of 2", x.quotient(-1, 9, 20), -1, x, 1);
    }
}
