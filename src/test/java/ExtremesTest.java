/**
 * Every call with every choice of arguments from a row of extremes, in three states: its answer and STATUS, and so the
 * order in which faults are asked, are the Model's, and nothing is ever thrown.
 */
public final class ExtremesTest {
    private static final Check CHECK = new Check();
    private static final int[] NUMBERS = {Integer.MIN_VALUE, -25, -24, -1, 0, 1, 2, 3, 5, 6, 9, 15, 16, 19, 20, 24, 25,
        99, 100, Integer.MAX_VALUE};
    private static final int[] FEWER = {Integer.MIN_VALUE, -25, -24, -1, 0, 1, 2, 3, 9, 15, 16, 24, 25, Integer.MAX_VALUE};

    private interface Both {
        long[] on(TuneBench x, Model m, int[] arguments);
    }

    public static void main(String[] args) {
        for (int state = 0; state < 3; state++) {
            intervals(state);
            commasAndDivisions(state);
            scales(state);
        }
        CHECK.finish();
    }

    private static void intervals(int state) {
        each("ratio", state, 3, (x, m, a) -> pair(x.ratio(a[0], a[1], a[2]), m.ratio(a[0], a[1], a[2])));
        each("times", state, 4, (x, m, a) -> pair(x.times(a[0], a[1], a[2], a[3]), m.times(a[0], a[1], a[2], a[3])));
        each("fold", state, 3, (x, m, a) -> pair(x.fold(a[0], a[1], a[2]), m.fold(a[0], a[1], a[2])));
        each("drop", state, 1, (x, m, a) -> pair(x.drop(a[0]), m.drop(a[0])));
        each("exponent", state, 2, (x, m, a) -> pair(x.exponent(a[0], a[1]), m.exponent(a[0], a[1])));
        each("order", state, 2, (x, m, a) -> pair(x.order(a[0], a[1]), m.order(a[0], a[1])));
        each("show", state, 1, (x, m, a) -> pair(x.show(a[0]), m.show(a[0])));
        each("out", state, 1, (x, m, a) -> pair(x.out(a[0]), m.out(a[0])));
        each("set", state, 3, (x, m, a) -> pair(x.set(a[0], a[1], 0, 0, 0, 0, a[2]),
            m.set(a[0], new int[] {a[1], 0, 0, 0, 0, a[2]})));
    }

    private static void commasAndDivisions(int state) {
        each("map", state, 2, (x, m, a) -> pair(x.map(a[0], a[1]), m.map(a[0], a[1])));
        each("steps", state, 2, (x, m, a) -> pair(x.steps(a[0], a[1]), m.steps(a[0], a[1])));
        each("comma", state, 1, (x, m, a) -> pair(x.comma(a[0]), m.comma(a[0])));
        each("vanishes", state, 1, (x, m, a) -> pair(x.vanishes(a[0]), m.vanishes(a[0])));
        each("supports", state, 1, (x, m, a) -> pair(x.supports(a[0]), m.supports(a[0])));
        each("clear", state, 0, (x, m, a) -> pair(x.clear(), m.clear()));
        each("rank", state, 0, (x, m, a) -> pair(x.rank(), m.rank()));
        each("twist", state, 0, (x, m, a) -> pair(x.twist(), m.twist()));
    }

    private static void scales(int state) {
        each("begin", state, 1, (x, m, a) -> pair(x.begin(a[0]), m.begin(a[0])));
        each("note", state, 1, (x, m, a) -> pair(x.note(a[0]), m.note(a[0])));
        each("lay", state, 3, (x, m, a) -> pair(x.lay(a[0], a[1], a[2]), m.lay(a[0], a[1], a[2])));
        each("take", state, 2, (x, m, a) -> pair(x.take(a[0], a[1]), m.take(a[0], a[1])));
        each("scale", state, 1, (x, m, a) -> pair(x.scale(a[0]), m.scale(a[0])));
        each("kinds", state, 1, (x, m, a) -> pair(x.kinds(a[0]), m.kinds(a[0])));
        each("step", state, 3, (x, m, a) -> pair(x.step(a[0], a[1], a[2]), m.step(a[0], a[1], a[2])));
        each("mode", state, 1, (x, m, a) -> pair(x.mode(a[0]), m.mode(a[0])));
        each("follows", state, 1, (x, m, a) -> pair(x.follows(a[0]), m.follows(a[0])));
        each("quotient", state, 3, (x, m, a) -> pair(x.quotient(a[0], a[1], a[2]), m.quotient(a[0], a[1], a[2])));
    }

    private static long[] pair(long got, long want) {
        return new long[] {got, want};
    }

    private static long[] pair(boolean got, int want) {
        return new long[] {got ? 1 : 0, want};
    }

    private static void each(String name, int state, int many, Both call) {
        int[] numbers = many < 4 ? NUMBERS : FEWER;
        int choices = 1;
        for (int i = 0; i < many; i++) {
            choices *= numbers.length;
        }
        for (int choice = 0; choice < choices; choice++) {
            int[] arguments = new int[many];
            int rest = choice;
            for (int i = 0; i < many; i++) {
                arguments[i] = numbers[rest % numbers.length];
                rest /= numbers.length;
            }
            one(name, state, arguments, call);
        }
    }

    private static void one(String name, int state, int[] arguments, Both call) {
        TuneBench x = new TuneBench();
        Model m = new Model();
        furnish(x, m, state);
        long[] answers = call.on(x, m, arguments);
        String told = name + java.util.Arrays.toString(arguments) + " in state " + state;
        CHECK.due(told, answers[0], answers[1]);
        CHECK.due("STATUS of " + told, x.status(), m.status);
    }

    /** State 0 is new; 1 has shelves and five commas; 2 has shelves, OUT, a comma, and a scale with a STEP that is FAR. */
    private static void furnish(TuneBench x, Model m, int state) {
        if (state == 0) {
            return;
        }
        int[][] ratios = {{2, 1}, {3, 2}, {1, 1}, {1, 2}, {81, 80}, {128, 125}};
        for (int shelf = 0; shelf < ratios.length; shelf++) {
            x.ratio(shelf, ratios[shelf][0], ratios[shelf][1]);
            m.ratio(shelf, ratios[shelf][0], ratios[shelf][1]);
        }
        x.set(15, 24, 0, 0, 0, 0, 0);
        m.set(15, new int[] {24, 0, 0, 0, 0, 0});
        x.set(6, -24, 24, 0, 0, 0, 0);
        m.set(6, new int[] {-24, 24, 0, 0, 0, 0});
        for (int i = 0; i < (state == 1 ? 5 : 1); i++) {
            x.comma(4 + i % 2);
            m.comma(4 + i % 2);
        }
        if (state == 2) {
            x.begin(15);
            m.begin(15);
            x.note(6);
            m.note(6);
            x.show(1);
            m.show(1);
        }
    }
}
