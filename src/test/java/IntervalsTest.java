/** Promises 1 to 11: a new object, status, and the calls over single intervals. */
public final class IntervalsTest {
    private static final Check CHECK = new Check();

    public static void main(String[] args) {
        newObject();
        statusOfTheLatestCall();
        set();
        ratio();
        times();
        fold();
        foldAtTheEdges();
        drop();
        exponent();
        order();
        orderOfNearSizes();
        show();
        out();
        CHECK.finish();
    }

    // Promise 1
    private static void newObject() {
        TuneBench x = new TuneBench();
        CHECK.due("NONE", TuneBench.NONE, -1);
        CHECK.due("status()", x.status(), 0);
        CHECK.due("out(0)", x.out(0), -1);
        for (int shelf = 0; shelf < 16; shelf++) {
            CHECK.due("show of a new shelf", x.show(shelf), -1, x, 2);
        }
        CHECK.due("rank()", x.rank(), 0, x, 0);
        CHECK.due("clear()", x.clear(), 0, x, 0);
        CHECK.due("scale(0)", x.scale(0), -1, x, 7);
        TuneBench other = new TuneBench();
        x.ratio(0, 3, 2);
        x.comma(0);
        x.begin(0);
        x.show(0);
        CHECK.due("another object's shelf", other.exponent(0, 0), -1, other, 2);
        CHECK.due("another object's commas", other.rank(), 0);
        CHECK.due("another object's scale", other.scale(0), -1, other, 7);
        CHECK.due("another object's OUT", other.out(0), -1);
    }

    // Promise 2
    private static void statusOfTheLatestCall() {
        TuneBench x = new TuneBench();
        x.drop(3);
        CHECK.due("status()", x.status(), 2);
        CHECK.due("status() again", x.status(), 2);
        x.out(0);
        CHECK.due("status() behind out()", x.status(), 2);
        x.map(12, 1);
        CHECK.due("status() behind map()", x.status(), 0);
        x.out(-1);
        CHECK.due("status() behind out(-1)", x.status(), 0);
        x.drop(16);
        CHECK.due("twist()", x.twist(), 1, x, 0);
        x.drop(16);
        CHECK.due("rank()", x.rank(), 0, x, 0);
        x.drop(16);
        CHECK.due("clear()", x.clear(), 0, x, 0);
        x.drop(16);
        CHECK.due("supports(99)", x.supports(99), 99, x, 0);
    }

    // Promise 3
    private static void set() {
        TuneBench x = new TuneBench();
        CHECK.due("set", x.set(15, 1, -2, 3, -4, 5, -6), true, x, 0);
        int[] want = {1, -2, 3, -4, 5, -6};
        for (int k = 0; k < 6; k++) {
            CHECK.due("exponent(15, " + k + ")", x.exponent(15, k), want[k], x, 0);
        }
        CHECK.due("set, the greatest", x.set(0, 24, 24, 24, 24, 24, 24), true, x, 0);
        CHECK.due("set, the least", x.set(1, -24, -24, -24, -24, -24, -24), true, x, 0);
        CHECK.due("set(-1)", x.set(-1, 0, 0, 0, 0, 0, 0), false, x, 1);
        CHECK.due("set(16), far", x.set(16, 25, 0, 0, 0, 0, 0), false, x, 1);
        for (int k = 0; k < 6; k++) {
            for (int e : new int[] {25, -25, Integer.MAX_VALUE, Integer.MIN_VALUE}) {
                int[] f = new int[6];
                f[k] = e;
                CHECK.due("set, far", x.set(15, f[0], f[1], f[2], f[3], f[4], f[5]), false, x, 4);
            }
        }
        CHECK.due("what was there stays", x.exponent(15, 5), -6, x, 0);
        CHECK.due("set anew", x.set(15, 0, 0, 0, 0, 0, 7), true, x, 0);
        CHECK.due("exponent(15, 0)", x.exponent(15, 0), 0, x, 0);
        CHECK.due("exponent(15, 5)", x.exponent(15, 5), 7, x, 0);
    }

    // Promise 4
    private static void ratio() {
        TuneBench x = new TuneBench();
        CHECK.due("ratio 30030/1", x.ratio(0, 30030, 1), true, x, 0);
        CHECK.due("show", Check.shown(x, 0), "30030/1");
        CHECK.due("ratio 1/30030", x.ratio(0, 1, 30030), true, x, 0);
        CHECK.due("show", Check.shown(x, 0), "1/30030");
        CHECK.due("ratio 1000/810", x.ratio(0, 1000, 810), true, x, 0);
        CHECK.due("show", Check.shown(x, 0), "100/81");
        CHECK.due("ratio 999999937 by itself", x.ratio(1, 999999937, 999999937), true, x, 0);
        CHECK.due("show", Check.shown(x, 1), "1/1");
        CHECK.due("ratio 51/34", x.ratio(2, 51, 34), true, x, 0);
        CHECK.due("show", Check.shown(x, 2), "3/2");
        CHECK.due("ratio 1000000000/1000000000", x.ratio(2, 1000000000, 1000000000), true, x, 0);
        CHECK.due("ratio 1/1000000000", x.ratio(2, 1, 1000000000), true, x, 0);
        CHECK.due("exponent", x.exponent(2, 2), -9, x, 0);
        CHECK.due("ratio 2^24", x.ratio(3, 1 << 24, 1), true, x, 0);
        CHECK.due("ratio 2^25", x.ratio(3, 1 << 25, 1), false, x, 4);
        CHECK.due("ratio 1/2^25", x.ratio(3, 1, 1 << 25), false, x, 4);
        CHECK.due("ratio 2^25/2", x.ratio(3, 1 << 25, 2), true, x, 0);
        CHECK.due("ratio 2^29/2^5", x.ratio(3, 1 << 29, 1 << 5), true, x, 0);
        CHECK.due("ratio 3^18", x.ratio(4, 387420489, 1), true, x, 0);
        CHECK.due("exponent", x.exponent(4, 1), 18, x, 0);
        CHECK.due("ratio 17/16", x.ratio(4, 17, 16), false, x, 4);
        CHECK.due("ratio 16/17", x.ratio(4, 16, 17), false, x, 4);
        CHECK.due("ratio 289/17", x.ratio(4, 289, 17), false, x, 4);
        CHECK.due("it stays", x.exponent(4, 1), 18, x, 0);
        for (int wrong : new int[] {0, -1, -3, 1000000001, Integer.MAX_VALUE, Integer.MIN_VALUE}) {
            CHECK.due("ratio " + wrong + "/1", x.ratio(4, wrong, 1), false, x, 3);
            CHECK.due("ratio 17/" + wrong, x.ratio(4, 17, wrong), false, x, 3);
            CHECK.due("ratio on no shelf", x.ratio(16, wrong, 1), false, x, 1);
            CHECK.due("ratio on no shelf", x.ratio(-1, 1, wrong), false, x, 1);
        }
        CHECK.due("it stays", x.exponent(4, 1), 18, x, 0);
    }

    // Promise 5
    private static void times() {
        TuneBench x = new TuneBench();
        x.ratio(0, 3, 2);
        x.ratio(1, 5, 4);
        CHECK.due("times", x.times(0, 1, 1, 2), true, x, 0);
        CHECK.due("show", Check.shown(x, 2), "15/8");
        CHECK.due("times, power 0", x.times(0, 1, 0, 2), true, x, 0);
        CHECK.due("show", Check.shown(x, 2), "3/2");
        CHECK.due("times, power -2", x.times(0, 1, -2, 0), true, x, 0);
        CHECK.due("show", Check.shown(x, 0), "24/25");
        CHECK.due("the other stays", Check.shown(x, 1), "5/4");
        CHECK.due("times, to itself", x.times(1, 1, -1, 1), true, x, 0);
        CHECK.due("show", Check.shown(x, 1), "1/1");
        x.set(3, 0, 0, 0, 1, 0, 0);
        x.set(4, 0, 0, 0, 0, 0, 0);
        CHECK.due("power 24", x.times(4, 3, 24, 5), true, x, 0);
        CHECK.due("exponent", x.exponent(5, 3), 24, x, 0);
        CHECK.due("power -24", x.times(4, 3, -24, 5), true, x, 0);
        CHECK.due("exponent", x.exponent(5, 3), -24, x, 0);
        CHECK.due("far below", x.times(5, 3, -1, 6), false, x, 4);
        CHECK.due("nothing came", x.show(6), -1, x, 2);
        CHECK.due("power 25", x.times(4, 4, 25, 5), false, x, 3);
        CHECK.due("power -25", x.times(4, 4, -25, 5), false, x, 3);
        CHECK.due("power least", x.times(4, 4, Integer.MIN_VALUE, 5), false, x, 3);
        CHECK.due("3 ahead of 4", x.times(5, 3, -25, 5), false, x, 3);
        CHECK.due("2 ahead of 3", x.times(4, 9, 25, 5), false, x, 2);
        CHECK.due("2 of a", x.times(9, 4, 1, 5), false, x, 2);
        CHECK.due("1 ahead of 2", x.times(9, 4, 25, 16), false, x, 1);
        CHECK.due("1 of a", x.times(-1, 9, 25, 5), false, x, 1);
        CHECK.due("1 of b", x.times(9, 16, 25, 5), false, x, 1);
        CHECK.due("it stays", x.exponent(5, 3), -24, x, 0);
    }

    // Promise 6
    private static void fold() {
        TuneBench x = new TuneBench();
        x.ratio(0, 2, 1);
        x.ratio(1, 3, 1);
        x.ratio(2, 1, 5);
        CHECK.due("fold 3 into 2", x.fold(1, 0, 3), true, x, 0);
        CHECK.due("show", Check.shown(x, 3), "3/2");
        CHECK.due("fold 1/5 into 2", x.fold(2, 0, 3), true, x, 0);
        CHECK.due("show", Check.shown(x, 3), "8/5");
        CHECK.due("fold 1/5 into 3", x.fold(2, 1, 3), true, x, 0);
        CHECK.due("show", Check.shown(x, 3), "9/5");
        CHECK.due("fold 2 into 3", x.fold(0, 1, 3), true, x, 0);
        CHECK.due("show", Check.shown(x, 3), "2/1");
        CHECK.due("fold 2 into itself", x.fold(0, 0, 0), true, x, 0);
        CHECK.due("show", Check.shown(x, 0), "1/1");
        CHECK.due("fold ONE into 3", x.fold(0, 1, 4), true, x, 0);
        CHECK.due("show", Check.shown(x, 4), "1/1");
        CHECK.due("into ONE", x.fold(1, 0, 4), false, x, 5);
        CHECK.due("into below ONE", x.fold(1, 2, 4), false, x, 5);
        CHECK.due("2 ahead of 5", x.fold(9, 2, 4), false, x, 2);
        CHECK.due("2 of b", x.fold(1, 9, 4), false, x, 2);
        CHECK.due("1 of to", x.fold(9, 9, 16), false, x, 1);
        CHECK.due("1 of a", x.fold(-1, 9, 4), false, x, 1);
        CHECK.due("1 of b", x.fold(9, 99, 4), false, x, 1);
        CHECK.due("it stays", Check.shown(x, 4), "1/1");
    }

    private static void foldAtTheEdges() {
        TuneBench x = new TuneBench();
        x.set(0, 1, 0, 0, 0, 0, 0);
        x.set(1, 0, 15, 0, 0, 0, 0);
        CHECK.due("3^15 into 2", x.fold(1, 0, 2), true, x, 0);
        CHECK.due("exponent", x.exponent(2, 0), -23, x, 0);
        x.set(1, 0, 16, 0, 0, 0, 0);
        CHECK.due("3^16 into 2 is far", x.fold(1, 0, 2), false, x, 4);
        x.set(1, 0, -15, 0, 0, 0, 0);
        CHECK.due("3^-15 into 2", x.fold(1, 0, 2), true, x, 0);
        CHECK.due("exponent", x.exponent(2, 0), 24, x, 0);
        x.set(1, 24, 0, 0, 0, 0, 0);
        CHECK.due("2^24 into 2", x.fold(1, 0, 2), true, x, 0);
        CHECK.due("show", Check.shown(x, 2), "1/1");
        x.set(1, -24, 0, 0, 0, 0, 0);
        CHECK.due("2^-24 into 2", x.fold(1, 0, 2), true, x, 0);
        CHECK.due("show", Check.shown(x, 2), "1/1");
        x.ratio(3, 3, 2);
        x.set(1, 24, -24, 0, 0, 0, 0);
        CHECK.due("(3/2)^-24 into 3/2", x.fold(1, 3, 2), true, x, 0);
        CHECK.due("show", Check.shown(x, 2), "1/1");
        x.set(1, -24, 23, 0, 0, 0, 0);
        CHECK.due("3^23/2^24 into 3/2", x.fold(1, 3, 2), true, x, 0);
        CHECK.due("exponent of 2", x.exponent(2, 0), -3, x, 0);
        CHECK.due("exponent of 3", x.exponent(2, 1), 2, x, 0);
        x.ratio(4, 81, 80);
        CHECK.due("2 into 81/80 is far", x.fold(0, 4, 2), false, x, 4);
        x.ratio(5, 1, 2);
        CHECK.due("5 ahead of 4", x.fold(4, 5, 2), false, x, 5);
        x.set(6, 24, 24, 24, 24, 24, 24);
        CHECK.due("the greatest into 2 is far", x.fold(6, 0, 2), false, x, 4);
        CHECK.due("the greatest into itself", x.fold(6, 6, 2), true, x, 0);
        CHECK.due("show", Check.shown(x, 2), "1/1");
        x.set(8, 24, 24, 0, 0, 0, 0);
        x.set(1, 12, -5, 0, 0, 0, 0);
        CHECK.due("no other power is near", x.fold(1, 8, 2), true, x, 0);
        CHECK.due("exponent of 2", x.exponent(2, 0), 12, x, 0);
        CHECK.due("exponent of 3", x.exponent(2, 1), -5, x, 0);
        x.ratio(8, 5, 1);
        x.set(1, -24, 24, 0, 0, 0, 0);
        CHECK.due("24 and -24 of other primes", x.fold(1, 8, 2), true, x, 0);
        CHECK.due("exponent of 2", x.exponent(2, 0), -24, x, 0);
        CHECK.due("exponent of 5", x.exponent(2, 2), -6, x, 0);
        x.set(7, -24, -24, -24, -24, -24, -24);
        CHECK.due("the least into the greatest", x.fold(7, 6, 2), true, x, 0);
        CHECK.due("show", Check.shown(x, 2), "1/1");
    }

    // Promise 7
    private static void drop() {
        TuneBench x = new TuneBench();
        x.ratio(0, 3, 2);
        x.ratio(15, 5, 4);
        CHECK.due("drop(0)", x.drop(0), true, x, 0);
        CHECK.due("exponent", x.exponent(0, 0), -1, x, 2);
        CHECK.due("drop(0) again", x.drop(0), false, x, 2);
        CHECK.due("drop(-1)", x.drop(-1), false, x, 1);
        CHECK.due("drop(16)", x.drop(16), false, x, 1);
        CHECK.due("another stays", Check.shown(x, 15), "5/4");
        CHECK.due("drop(15)", x.drop(15), true, x, 0);
        CHECK.due("set anew", x.set(15, 0, 0, 0, 0, 0, 0), true, x, 0);
        CHECK.due("exponent", x.exponent(15, 2), 0, x, 0);
    }

    // Promise 8
    private static void exponent() {
        TuneBench x = new TuneBench();
        x.set(2, -1, 24, -24, 0, 1, -2);
        CHECK.due("exponent 0", x.exponent(2, 0), -1, x, 0);
        CHECK.due("exponent 1", x.exponent(2, 1), 24, x, 0);
        CHECK.due("exponent 2", x.exponent(2, 2), -24, x, 0);
        CHECK.due("exponent 5", x.exponent(2, 5), -2, x, 0);
        CHECK.due("exponent -1", x.exponent(2, -1), -1, x, 3);
        CHECK.due("exponent 6", x.exponent(2, 6), -1, x, 3);
        CHECK.due("2 ahead of 3", x.exponent(3, 6), -1, x, 2);
        CHECK.due("1 ahead of 3", x.exponent(16, 6), -1, x, 1);
        CHECK.due("1", x.exponent(Integer.MIN_VALUE, 0), -1, x, 1);
    }

    // Promise 9
    private static void order() {
        TuneBench x = new TuneBench();
        x.ratio(0, 3, 2);
        x.ratio(1, 5, 4);
        x.ratio(2, 10, 8);
        x.ratio(3, 1, 1);
        x.ratio(4, 1, 7);
        CHECK.due("3/2, 5/4", x.order(0, 1), 1, x, 0);
        CHECK.due("5/4, 3/2", x.order(1, 0), -2, x, 0);
        CHECK.due("5/4, 10/8", x.order(1, 2), 0, x, 0);
        CHECK.due("itself", x.order(4, 4), 0, x, 0);
        CHECK.due("1/7, 1", x.order(4, 3), -2, x, 0);
        CHECK.due("1, 1/7", x.order(3, 4), 1, x, 0);
        CHECK.due("2 of b", x.order(0, 9), -1, x, 2);
        CHECK.due("2 of a", x.order(9, 0), -1, x, 2);
        CHECK.due("1 ahead of 2", x.order(9, 16), -1, x, 1);
        CHECK.due("1 of a", x.order(-1, 0), -1, x, 1);
    }

    private static void orderOfNearSizes() {
        TuneBench x = new TuneBench();
        // The first four are the nearest to ONE that there are (1e-8 to 3e-8).
        int[][] near = {{22, 3, -22, -14, -3, 20}, {-7, 10, -21, -1, 7, 5}, {20, -15, -6, -20, 16, 5},
            {-2, -18, 16, -6, 19, -15}, {-19, 23, 22, -1, -19, 0}, {24, -24, 24, -24, 24, -24}, {0, 0, 0, 0, 0, 0}};
        for (int[] e : near) {
            x.set(0, e[0], e[1], e[2], e[3], e[4], e[5]);
            x.set(1, 0, 0, 0, 0, 0, 0);
            x.set(2, -e[0], -e[1], -e[2], -e[3], -e[4], -e[5]);
            int sign = Model.product(e, 1).compareTo(Model.product(e, -1));
            CHECK.due("near ONE", x.order(0, 1), sign > 0 ? 1 : sign == 0 ? 0 : -2, x, 0);
            CHECK.due("ONE, near", x.order(1, 0), sign < 0 ? 1 : sign == 0 ? 0 : -2, x, 0);
            CHECK.due("near, its opposite", x.order(0, 2), sign > 0 ? 1 : sign == 0 ? 0 : -2, x, 0);
        }
        x.set(0, 24, 24, 24, 24, 24, 24);
        x.set(1, -24, -24, -24, -24, -24, -24);
        CHECK.due("the greatest, the least", x.order(0, 1), 1, x, 0);
        CHECK.due("the least, the greatest", x.order(1, 0), -2, x, 0);
        x.set(0, 24, 24, 24, -24, -24, -24);
        x.set(1, -24, -24, -24, 24, 24, 24);
        CHECK.due("30 and 1001 to the power 48", x.order(0, 1), -2, x, 0);
    }

    // Promise 10
    private static void show() {
        TuneBench x = new TuneBench();
        x.ratio(0, 1, 1);
        CHECK.due("show ONE", x.show(0), 3, x, 0);
        CHECK.due("ONE", Check.shown(x, 0), "1/1");
        x.ratio(0, 1000000000, 1);
        CHECK.due("zeros inside", Check.shown(x, 0), "1000000000/1");
        x.ratio(0, 1, 1000000000);
        CHECK.due("zeros behind", Check.shown(x, 0), "1/1000000000");
        int[][] rows = {{24, 24, 24, 24, 24, 24}, {-24, -24, -24, -24, -24, -24}, {24, -24, 24, -24, 24, -24},
            {24, 0, 24, 0, 0, 0}, {18, 0, 18, -1, 0, 0}, {9, 0, 9, 0, 0, -24}, {-24, 24, 0, 0, 0, 0}};
        for (int[] e : rows) {
            x.set(1, e[0], e[1], e[2], e[3], e[4], e[5]);
            String want = Model.product(e, 1) + "/" + Model.product(e, -1);
            CHECK.due("show", x.show(1), want.length(), x, 0);
            CHECK.due("show", Check.shown(x, 1), want);
            CHECK.due("behind OUT", x.out(want.length()), -1);
        }
        CHECK.due("2", x.show(9), -1, x, 2);
        CHECK.due("1", x.show(16), -1, x, 1);
        CHECK.due("OUT stays", x.out(0), '2');
    }

    // Promise 11
    private static void out() {
        TuneBench x = new TuneBench();
        CHECK.due("out(0)", x.out(0), -1);
        x.ratio(0, 16, 9);
        x.ratio(1, 2, 1);
        x.show(0);
        int[] want = {'1', '6', '/', '9', -1};
        for (int k = 0; k < 5; k++) {
            CHECK.due("out(" + k + ")", x.out(k), want[k]);
        }
        x.drop(0);
        CHECK.due("OUT stays behind drop()", x.out(1), '6');
        CHECK.due("out(-1)", x.out(-1), -1);
        CHECK.due("out of the greatest", x.out(Integer.MAX_VALUE), -1);
        CHECK.due("out of the least", x.out(Integer.MIN_VALUE), -1);
        x.show(1);
        CHECK.due("a shorter OUT", x.out(3), -1);
        CHECK.due("its last byte", x.out(2), '1');
    }
}
