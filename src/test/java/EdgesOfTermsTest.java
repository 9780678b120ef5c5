import java.util.ArrayList;
import java.util.List;

/** The edges that the terms name, and those that all calls share: shelves, statuses, what a refused call leaves. */
public final class EdgesOfTermsTest {
    private static final Edge EDGE = new Edge();

    /** A call seen as a function of one of its shelves; a shelf that it only writes may be empty. */
    private record Slot(String name, boolean reads, boolean truth, OfShelf call) {
    }

    private interface OfShelf {
        long on(TuneBench x, int shelf);
    }

    public static void main(String[] args) {
        noneIsMinusOne();
        theLeastAndTheGreatestShelf();
        noSuchShelf();
        nothingOnIt();
        sixteenShelvesAreSixteen();
        farIsBelowMinus24OrAbove24();
        greaterByRatioAlone();
        foldedIsOneOrGreater();
        foldedIsBelowThePeriod();
        statusAndOutHaveNone();
        statusIsOfTheLatestCall();
        callsWithoutFaultsHaveStatus0();
        the512thCallIsAnswered();
        EDGE.finish();
    }

    // "NONE = -1".
    private static void noneIsMinusOne() {
        EDGE.due("NONE", TuneBench.NONE, -1);
    }

    private static long of(boolean answer) {
        return answer ? 1 : 0;
    }

    /** Shelves 0 and 15 have intervals that every slot takes; 3 has the octave, and the scale is the octave alone. */
    private static void twoEnds(TuneBench x) {
        x.ratio(0, 5, 3);
        x.ratio(15, 7, 4);
        x.ratio(3, 2, 1);
        x.begin(3);
        x.show(0);
    }

    private static List<Slot> slots() {
        List<Slot> slots = new ArrayList<>();
        slots.add(new Slot("set's shelf", false, true, (x, s) -> of(x.set(s, 1, 0, 0, 0, 0, 0))));
        slots.add(new Slot("ratio's shelf", false, true, (x, s) -> of(x.ratio(s, 9, 8))));
        slots.add(new Slot("times' a", true, true, (x, s) -> of(x.times(s, 3, 1, 4))));
        slots.add(new Slot("times' b", true, true, (x, s) -> of(x.times(3, s, 1, 4))));
        slots.add(new Slot("times' to", false, true, (x, s) -> of(x.times(3, 3, 1, s))));
        slots.add(new Slot("fold's a", true, true, (x, s) -> of(x.fold(s, 3, 4))));
        slots.add(new Slot("fold's b", true, true, (x, s) -> of(x.fold(3, s, 4))));
        slots.add(new Slot("fold's to", false, true, (x, s) -> of(x.fold(3, 3, s))));
        slots.add(new Slot("drop's shelf", true, true, (x, s) -> of(x.drop(s))));
        slots.add(new Slot("exponent's shelf", true, false, (x, s) -> x.exponent(s, 0)));
        slots.add(new Slot("order's a", true, false, (x, s) -> x.order(s, 3)));
        slots.add(new Slot("order's b", true, false, (x, s) -> x.order(3, s)));
        slots.add(new Slot("show's shelf", true, false, (x, s) -> x.show(s)));
        slots.add(new Slot("steps' shelf", true, false, (x, s) -> x.steps(s, 12)));
        slots.add(new Slot("comma's shelf", true, false, (x, s) -> x.comma(s)));
        slots.add(new Slot("vanishes' shelf", true, false, (x, s) -> x.vanishes(s)));
        slots.add(new Slot("begin's shelf", true, true, (x, s) -> of(x.begin(s))));
        slots.add(new Slot("note's shelf", true, false, (x, s) -> x.note(s)));
        slots.add(new Slot("lay's period", true, true, (x, s) -> of(x.lay(s, 3, 2))));
        slots.add(new Slot("lay's by", true, true, (x, s) -> of(x.lay(3, s, 2))));
        slots.add(new Slot("take's to", false, true, (x, s) -> of(x.take(0, s))));
        slots.add(new Slot("step's to", false, false, (x, s) -> x.step(1, 0, s)));
        slots.add(new Slot("quotient's a", true, false, (x, s) -> x.quotient(s, 3, 0)));
        slots.add(new Slot("quotient's b", true, false, (x, s) -> x.quotient(3, s, 0)));
        return slots;
    }

    // "There are sixteen SHELVES, 0 to 15": the least and the greatest that are good, in each place of each call.
    private static void theLeastAndTheGreatestShelf() {
        for (Slot slot : slots()) {
            for (int shelf : new int[] {0, 15}) {
                EDGE.accepts(slot.name + " " + shelf, EdgesOfTermsTest::twoEnds, x -> slot.call.on(x, shelf));
            }
        }
    }

    // "1 no such SHELF (also of to)": the first that are not, in each place of each call.
    private static void noSuchShelf() {
        for (Slot slot : slots()) {
            for (int shelf : Edge.NO_SHELVES) {
                refused(slot, shelf, 1);
            }
        }
    }

    // "2 nothing on it": in each place that is read.
    private static void nothingOnIt() {
        for (Slot slot : slots()) {
            if (slot.reads) {
                refused(slot, 9, 2);
            } else {
                EDGE.accepts(slot.name + " with nothing on it", EdgesOfTermsTest::twoEnds, x -> slot.call.on(x, 9));
            }
        }
    }

    private static void refused(Slot slot, int shelf, int status) {
        String told = slot.name + " " + shelf;
        if (slot.truth) {
            EDGE.denies(told, EdgesOfTermsTest::twoEnds, x -> slot.call.on(x, shelf) != 0, status);
        } else {
            EDGE.refuses(told, EdgesOfTermsTest::twoEnds, x -> slot.call.on(x, shelf), status);
        }
    }

    // "sixteen SHELVES, each with an INTERVAL or nothing": none is another one.
    private static void sixteenShelvesAreSixteen() {
        Edge.Recipe all = x -> {
            for (int shelf = 0; shelf < 16; shelf++) {
                x.set(shelf, shelf, -shelf, 0, shelf - 8, 0, 1);
            }
        };
        for (int shelf = 0; shelf < 16; shelf++) {
            int s = shelf;
            EDGE.tells("exponent of shelf " + s, all, x -> x.exponent(s, 1), -s);
            EDGE.does("drop(" + s + ")", all, x -> x.drop(s), "shelf " + s, State.EMPTY);
            EDGE.does("set(" + s + ")", all, x -> x.set(s, 0, 0, 9, 0, 0, 0), "shelf " + s, "1953125/1");
        }
    }

    // "It is FAR, if one of its EXPONENTS is below -24 or above 24": 24 and -24 are good, 25 and -25 are not.
    private static void farIsBelowMinus24OrAbove24() {
        for (int prime = 0; prime < 6; prime++) {
            for (int sign : new int[] {1, -1}) {
                int[] last = new int[6];
                last[prime] = 24 * sign;
                int[] one = new int[6];
                one[prime] = sign;
                String told = " of prime " + prime;
                EDGE.does(last[prime] + told, Benches::furnished, x -> put(x, Benches.FREE, last),
                    "shelf " + Benches.FREE, State.ratio(last));
                Edge.Recipe both = x -> {
                    Benches.furnished(x);
                    put(x, 11, last);
                    put(x, 12, one);
                };
                EDGE.denies(25 * sign + told + " by times", both, x -> x.times(11, 12, 1, 11), 4);
                for (int far : new int[] {25 * sign, sign > 0 ? Integer.MAX_VALUE : Integer.MIN_VALUE}) {
                    int[] beyond = new int[6];
                    beyond[prime] = far;
                    EDGE.denies(far + told, Benches::furnished, x -> put(x, Benches.FREE, beyond), 4);
                    EDGE.denies(far + told + ", something there", Benches::furnished, x -> put(x, 0, beyond), 4);
                }
            }
        }
    }

    private static boolean put(TuneBench x, int shelf, int... e) {
        return x.set(shelf, e[0], e[1], e[2], e[3], e[4], e[5]);
    }

    // "Of two INTERVALS that is GREATER whose RATIO is": those nearest to ONE that there are, and the farthest.
    private static void greaterByRatioAlone() {
        int[][] rows = {{22, 3, -22, -14, -3, 20}, {-7, 10, -21, -1, 7, 5}, {20, -15, -6, -20, 16, 5},
            {-2, -18, 16, -6, 19, -15}, {24, 24, 24, 24, 24, 24}, {24, -24, 24, -24, 24, -24}, {0, 0, 0, 0, 0, -1}};
        for (int[] row : rows) {
            boolean greater = Model.product(row, 1).compareTo(Model.product(row, -1)) > 0;
            int[] opposite = Model.by(new int[6], row, -1);
            int[] above = greater ? row : opposite;
            int[] below = greater ? opposite : row;
            Edge.Recipe recipe = x -> {
                Benches.furnished(x);
                put(x, 11, above);
                put(x, 12, below);
            };
            EDGE.tells("above, ONE", recipe, x -> x.order(11, Benches.UNISON), 1);
            EDGE.tells("ONE, above", recipe, x -> x.order(Benches.UNISON, 11), -2);
            EDGE.tells("below, ONE", recipe, x -> x.order(12, Benches.UNISON), -2);
            EDGE.tells("above, below", recipe, x -> x.order(11, 12), 1);
            EDGE.tells("above, above", recipe, x -> x.order(11, 11), 0);
            EDGE.does("a period just GREATER than ONE", recipe, x -> x.begin(11), "scale", "1/1 " + State.ratio(above));
            EDGE.denies("a period just below ONE", recipe, x -> x.begin(12), 5);
        }
    }

    // "TO FOLD: ... that is ONE or GREATER": ONE itself is reached, what is just below is lifted.
    private static void foldedIsOneOrGreater() {
        folded("ONE", "1/1", new int[6], 2, 1);
        folded("the period", "1/1", new int[] {1, 0, 0, 0, 0, 0}, 2, 1);
        folded("the period's opposite", "1/1", new int[] {-1, 0, 0, 0, 0, 0}, 2, 1);
        folded("its 24th power", "1/1", new int[] {24, 0, 0, 0, 0, 0}, 2, 1);
        folded("its -24th power", "1/1", new int[] {-24, 0, 0, 0, 0, 0}, 2, 1);
        folded("just below ONE", "4374/2401", new int[] {0, 7, 0, -4, 0, 0}, 2, 1);
        folded("4374/4375", "8748/4375", new int[] {1, 7, -4, -1, 0, 0}, 2, 1);
        folded("just above ONE stays", "4375/4374", new int[] {-1, -7, 4, 1, 0, 0}, 2, 1);
    }

    // "... and below p".
    private static void foldedIsBelowThePeriod() {
        folded("just below the period stays", "8748/4375", new int[] {2, 7, -4, -1, 0, 0}, 2, 1);
        folded("just above the period", "4375/4374", new int[] {0, -7, 4, 1, 0, 0}, 2, 1);
        folded("3/2 in 3/2", "1/1", new int[] {-1, 1, 0, 0, 0, 0}, 3, 2);
        folded("9/4 in 3/2", "1/1", new int[] {-2, 2, 0, 0, 0, 0}, 3, 2);
        folded("2 in 3/2", "4/3", new int[] {1, 0, 0, 0, 0, 0}, 3, 2);
        folded("1/2 in 3/2", "9/8", new int[] {-1, 0, 0, 0, 0, 0}, 3, 2);
        folded("2 in 3 stays", "2/1", new int[] {1, 0, 0, 0, 0, 0}, 3, 1);
    }

    private static void folded(String told, String want, int[] row, int n, int d) {
        Edge.Recipe recipe = x -> {
            Benches.furnished(x);
            put(x, 11, row);
            x.ratio(12, n, d);
        };
        EDGE.does("fold: " + told, recipe, x -> x.fold(11, 12, 13), "shelf 13", want);
    }

    /** Each STATUS, by a call that leaves it. */
    private static List<Edge.Call> callsByStatus() {
        List<Edge.Call> calls = new ArrayList<>();
        calls.add(x -> x.map(1, 0));
        calls.add(x -> x.show(16));
        calls.add(x -> x.show(Benches.BARE));
        calls.add(x -> x.map(0, 0));
        calls.add(x -> of(x.set(0, 25, 0, 0, 0, 0, 0)));
        calls.add(x -> of(x.begin(Benches.UNISON)));
        calls.add(x -> {
            for (int i = 0; i < 5; i++) {
                x.comma(Benches.SYNTONIC);
            }
            return x.comma(Benches.SYNTONIC);
        });
        calls.add(x -> x.kinds(1));
        calls.add(x -> {
            x.begin(Benches.OCTAVE);
            return x.note(Benches.UNISON);
        });
        calls.add(x -> x.quotient(Benches.OCTAVE, Benches.SYNTONIC, 19));
        return calls;
    }

    // "status() and out() have none": they leave STATUS as it is, whichever it is.
    private static void statusAndOutHaveNone() {
        List<Edge.Call> calls = callsByStatus();
        for (int status = 0; status < calls.size(); status++) {
            TuneBench x = new TuneBench();
            Benches.plain(x);
            calls.get(status).on(x);
            EDGE.due("status()", x.status(), status);
            EDGE.due("status() again", x.status(), status);
            EDGE.due("out(0)", x.out(0), '3');
            EDGE.due("status() behind out(0)", x.status(), status);
            EDGE.due("out(3)", x.out(3), -1);
            EDGE.due("status() behind out(3)", x.status(), status);
            EDGE.due("out(-1)", x.out(-1), -1);
            EDGE.due("status() behind out(-1)", x.status(), status);
        }
    }

    // Promise 2, "STATUS of the latest call that has one": each behind each other.
    private static void statusIsOfTheLatestCall() {
        List<Edge.Call> calls = callsByStatus();
        for (int first = 0; first < calls.size(); first++) {
            for (int second = 0; second < calls.size(); second++) {
                boolean scaleStays = first == 8 && second == 7;
                if (!scaleStays) {
                    TuneBench x = new TuneBench();
                    Benches.plain(x);
                    calls.get(first).on(x);
                    calls.get(second).on(x);
                    EDGE.due("status() behind " + first + ", " + second, x.status(), second);
                }
            }
        }
    }

    // "0 else": also of the calls that are never refused.
    private static void callsWithoutFaultsHaveStatus0() {
        EDGE.tells("rank()", Benches::furnished, x -> x.rank(), 2);
        EDGE.tells("twist()", Benches::furnished, x -> x.twist(), 1);
        EDGE.tells("rank() of nothing", x -> { }, x -> x.rank(), 0);
        EDGE.tells("twist() of nothing", x -> { }, x -> x.twist(), 1);
        EDGE.tells("clear() of nothing", x -> { }, x -> x.clear(), 0);
        EDGE.accepts("clear()", Benches::furnished, x -> x.clear());
    }

    // "An object is used for at most 512 calls after it has been made": the last of them is answered as the first.
    private static void the512thCallIsAnswered() {
        TuneBench x = new TuneBench();
        x.ratio(0, 2, 1);
        x.ratio(1, 3, 1);
        for (int calls = 2; calls < 508; calls++) {
            EDGE.due("lay", of(x.lay(0, 1, 1 + calls % 16)), 1);
        }
        EDGE.due("call 509", of(x.lay(0, 1, 12)), 1);
        EDGE.due("call 510", x.follows(12), 1);
        EDGE.due("call 511", x.step(12, 0, 15), 12);
        EDGE.due("call 512", x.order(15, 0), 0);
    }
}
