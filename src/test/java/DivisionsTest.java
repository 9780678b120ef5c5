/** Promises 12 and 13: maps of divisions, and steps by them. */
public final class DivisionsTest {
    private static final Check CHECK = new Check();

    public static void main(String[] args) {
        map();
        steps();
        CHECK.finish();
    }

    // Promise 12
    private static void map() {
        TuneBench x = new TuneBench();
        for (int division = 1; division <= 99; division++) {
            for (int k = 0; k < 6; k++) {
                CHECK.due("map(" + division + ", " + k + ")", x.map(division, k), Model.nearest(division, k), x, 0);
            }
        }
        int[] known = {31, 49, 72, 87, 107, 115};
        for (int k = 0; k < 6; k++) {
            CHECK.due("map(31, " + k + ")", x.map(31, k), known[k], x, 0);
        }
        for (int wrong : new int[] {0, -1, 100, Integer.MAX_VALUE, Integer.MIN_VALUE}) {
            CHECK.due("map(" + wrong + ", 1)", x.map(wrong, 1), -1, x, 3);
        }
        for (int wrong : new int[] {-1, 6, Integer.MAX_VALUE, Integer.MIN_VALUE}) {
            CHECK.due("map(12, " + wrong + ")", x.map(12, wrong), -1, x, 3);
        }
    }

    // Promise 13
    private static void steps() {
        TuneBench x = new TuneBench();
        x.ratio(0, 5, 4);
        CHECK.due("5/4 in 12", x.steps(0, 12), 4, x, 0);
        CHECK.due("5/4 in 31", x.steps(0, 31), 10, x, 0);
        CHECK.due("5/4 in 1", x.steps(0, 1), 0, x, 0);
        x.ratio(1, 15, 16);
        CHECK.due("15/16 in 12", x.steps(1, 12), -1, x, 0);
        x.set(2, 24, 24, 24, 24, 24, 24);
        int sum = 0;
        for (int k = 0; k < 6; k++) {
            sum += 24 * Model.nearest(99, k);
        }
        CHECK.due("the greatest in 99", x.steps(2, 99), sum, x, 0);
        x.set(2, -24, -24, -24, -24, -24, -24);
        CHECK.due("the least in 99", x.steps(2, 99), -sum, x, 0);
        x.set(3, 1, -2, 3, -4, 5, -6);
        CHECK.due("each prime, in 12", x.steps(3, 12), 12 - 2 * 19 + 3 * 28 - 4 * 34 + 5 * 42 - 6 * 44, x, 0);
        CHECK.due("3", x.steps(0, 0), -1, x, 3);
        CHECK.due("3", x.steps(0, 100), -1, x, 3);
        CHECK.due("2 ahead of 3", x.steps(9, 100), -1, x, 2);
        CHECK.due("1 ahead of 3", x.steps(16, 100), -1, x, 1);
        CHECK.due("1", x.steps(-1, 12), -1, x, 1);
    }
}
