/** Promises 20 to 28: the scale. */
public final class ScaleTest {
    private static final Check CHECK = new Check();

    public static void main(String[] args) {
        begin();
        note();
        noteUntilFull();
        lay();
        layRefused();
        take();
        scale();
        properAndStrict();
        kinds();
        step();
        mode();
        follows();
        withoutScale();
        CHECK.finish();
    }

    /** A scale in the octave, with shelf 0 the octave. */
    private static TuneBench octave(int[]... ratios) {
        TuneBench x = new TuneBench();
        x.ratio(0, 2, 1);
        x.begin(0);
        for (int[] r : ratios) {
            x.ratio(1, r[0], r[1]);
            x.note(1);
        }
        return x;
    }

    private static TuneBench major() {
        return octave(new int[] {15, 8}, new int[] {9, 8}, new int[] {5, 4}, new int[] {3, 2}, new int[] {4, 3},
            new int[] {5, 3});
    }

    private static void dueNotes(String told, TuneBench x, String... want) {
        CHECK.due(told + ": how many", x.scale(0), want.length - 1);
        for (int i = 0; i < want.length; i++) {
            CHECK.due(told + ": take", x.take(i, 15), true, x, 0);
            CHECK.due(told + ": note " + i, Check.shown(x, 15), want[i]);
        }
    }

    // Promise 20
    private static void begin() {
        TuneBench x = new TuneBench();
        x.ratio(0, 3, 1);
        x.ratio(1, 1, 1);
        x.ratio(2, 1, 2);
        CHECK.due("begin", x.begin(0), true, x, 0);
        dueNotes("begin", x, "1/1", "3/1");
        x.ratio(3, 2, 1);
        x.note(3);
        x.ratio(0, 5, 1);
        dueNotes("the period is not its shelf", x, "1/1", "2/1", "3/1");
        CHECK.due("ONE", x.begin(1), false, x, 5);
        CHECK.due("below ONE", x.begin(2), false, x, 5);
        CHECK.due("2", x.begin(9), false, x, 2);
        CHECK.due("1", x.begin(16), false, x, 1);
        CHECK.due("1", x.begin(-1), false, x, 1);
        dueNotes("it stays", x, "1/1", "2/1", "3/1");
        CHECK.due("begin anew", x.begin(3), true, x, 0);
        dueNotes("begin anew", x, "1/1", "2/1");
    }

    // Promise 21
    private static void note() {
        TuneBench x = new TuneBench();
        x.ratio(0, 2, 1);
        x.ratio(1, 3, 1);
        CHECK.due("no scale", x.note(1), -1, x, 7);
        CHECK.due("2 ahead of 7", x.note(9), -1, x, 2);
        CHECK.due("1 ahead of 7", x.note(16), -1, x, 1);
        x.begin(0);
        CHECK.due("3/1", x.note(1), 1, x, 0);
        x.ratio(2, 1, 5);
        CHECK.due("1/5", x.note(2), 2, x, 0);
        x.ratio(3, 9, 1);
        CHECK.due("9/1", x.note(3), 1, x, 0);
        dueNotes("notes", x, "1/1", "9/8", "3/2", "8/5", "2/1");
        x.ratio(4, 6, 1);
        CHECK.due("6/1 is there", x.note(4), -1, x, 8);
        x.ratio(4, 1, 4);
        CHECK.due("1/4 is ONE", x.note(4), -1, x, 8);
        x.set(4, 0, 24, 0, 0, 0, 0);
        CHECK.due("3^24 is far", x.note(4), -1, x, 4);
        x.set(4, 0, -24, 0, 0, 0, 0);
        CHECK.due("3^-24 is far", x.note(4), -1, x, 4);
        CHECK.due("1", x.note(-1), -1, x, 1);
        CHECK.due("2", x.note(9), -1, x, 2);
        dueNotes("notes", x, "1/1", "9/8", "3/2", "8/5", "2/1");
        x.ratio(1, 7, 1);
        dueNotes("a note is not its shelf", x, "1/1", "9/8", "3/2", "8/5", "2/1");
        x.ratio(0, 5, 4);
        x.begin(0);
        x.ratio(1, 81, 1);
        CHECK.due("81 by (5/4)^-19 is far: 2^38", x.note(1), -1, x, 4);
        x.ratio(1, 1, 81);
        CHECK.due("1/81 by (5/4)^20 is far: 2^-40", x.note(1), -1, x, 4);
        dueNotes("nothing came", x, "1/1", "5/4");
    }

    private static void noteUntilFull() {
        TuneBench x = new TuneBench();
        x.set(0, 24, 0, 0, 0, 0, 0);
        x.begin(0);
        for (int i = 23; i > 0; i--) {
            x.set(1, i, 0, 0, 0, 0, 0);
            CHECK.due("note", x.note(1), 1, x, 0);
        }
        CHECK.due("24 notes", x.scale(0), 24, x, 0);
        x.ratio(1, 3, 1);
        CHECK.due("one too many", x.note(1), -1, x, 6);
        x.set(1, -1, 0, 0, 0, 0, 0);
        CHECK.due("8 ahead of 6", x.note(1), -1, x, 8);
        x.set(1, -24, -1, 0, 0, 0, 0);
        CHECK.due("one too many, folded", x.note(1), -1, x, 6);
        x.set(1, 0, 0, 0, 0, 0, 24);
        CHECK.due("4 ahead of 6", x.note(1), -1, x, 4);
        CHECK.due("24 notes yet", x.scale(0), 24, x, 0);
    }

    // Promise 22
    private static void lay() {
        TuneBench x = new TuneBench();
        x.ratio(0, 2, 1);
        x.ratio(1, 3, 1);
        CHECK.due("lay", x.lay(0, 1, 5), true, x, 0);
        dueNotes("five fifths", x, "1/1", "9/8", "81/64", "3/2", "27/16", "2/1");
        x.ratio(2, 1, 3);
        CHECK.due("lay downwards", x.lay(0, 2, 3), true, x, 0);
        dueNotes("two fourths", x, "1/1", "4/3", "16/9", "2/1");
        CHECK.due("lay one", x.lay(1, 0, 1), true, x, 0);
        dueNotes("one", x, "1/1", "3/1");
        CHECK.due("lay 2 in 3", x.lay(1, 0, 24), true, x, 0);
        CHECK.due("notes", x.scale(0), 24, x, 0);
        CHECK.due("lay 3 in 2, 16", x.lay(0, 1, 16), true, x, 0);
        // 18 to the power 23 is far before it is folded, and 2^23 3^-14 is not.
        x.ratio(3, 18, 1);
        CHECK.due("lay 18 in 3", x.lay(1, 3, 24), true, x, 0);
        CHECK.due("notes", x.scale(0), 24, x, 0);
        x.ratio(3, 27, 25);
        CHECK.due("lay 27/25 in 2, to 3^24", x.lay(0, 3, 9), true, x, 0);
        x.ratio(3, 25, 27);
        CHECK.due("lay 25/27 in 2, to 3^-24", x.lay(0, 3, 9), true, x, 0);
        x.ratio(4, 1, 1);
        CHECK.due("lay ONE once", x.lay(0, 4, 1), true, x, 0);
        dueNotes("one", x, "1/1", "2/1");
    }

    private static void layRefused() {
        TuneBench x = major();
        x.ratio(1, 3, 1);
        x.ratio(2, 1, 1);
        x.ratio(3, 1, 2);
        x.ratio(4, 4, 1);
        x.set(5, 0, 9, 0, 0, 0, 0);
        CHECK.due("3^16 is far", x.lay(0, 1, 17), false, x, 4);
        x.ratio(8, 27, 25);
        CHECK.due("3^27 is far, without an octave", x.lay(0, 8, 10), false, x, 4);
        x.ratio(8, 25, 27);
        CHECK.due("3^-27 is far", x.lay(0, 8, 10), false, x, 4);
        CHECK.due("2 in 4, 24", x.lay(4, 0, 24), false, x, 8);
        x.set(6, 24, 0, 0, 0, 0, 0);
        x.set(7, 12, 0, 0, 0, 0, 1);
        CHECK.due("far at last", x.lay(6, 7, 24), false, x, 4);
        CHECK.due("ONE twice", x.lay(0, 2, 2), false, x, 8);
        CHECK.due("2 in 4", x.lay(4, 0, 3), false, x, 8);
        CHECK.due("the period ONE", x.lay(2, 1, 2), false, x, 5);
        CHECK.due("the period below ONE", x.lay(3, 1, 2), false, x, 5);
        CHECK.due("5 ahead of 4", x.lay(3, 5, 24), false, x, 5);
        for (int wrong : new int[] {0, -1, 25, Integer.MAX_VALUE, Integer.MIN_VALUE}) {
            CHECK.due("lay " + wrong, x.lay(0, 1, wrong), false, x, 3);
            CHECK.due("3 ahead of 5", x.lay(2, 1, wrong), false, x, 3);
            CHECK.due("2 ahead of 3", x.lay(0, 9, wrong), false, x, 2);
            CHECK.due("2 ahead of 3", x.lay(9, 0, wrong), false, x, 2);
            CHECK.due("1 ahead of 2", x.lay(9, 16, wrong), false, x, 1);
            CHECK.due("1 ahead of 2", x.lay(-1, 9, wrong), false, x, 1);
        }
        dueNotes("it stays", x, "1/1", "9/8", "5/4", "4/3", "3/2", "5/3", "15/8", "2/1");
    }

    // Promise 23
    private static void take() {
        TuneBench x = major();
        CHECK.due("take 0", x.take(0, 4), true, x, 0);
        CHECK.due("ONE", Check.shown(x, 4), "1/1");
        CHECK.due("take 6", x.take(6, 4), true, x, 0);
        CHECK.due("note 6", Check.shown(x, 4), "15/8");
        CHECK.due("take 7", x.take(7, 0), true, x, 0);
        CHECK.due("the period", Check.shown(x, 0), "2/1");
        CHECK.due("take 8", x.take(8, 4), false, x, 3);
        CHECK.due("take -1", x.take(-1, 4), false, x, 3);
        CHECK.due("1 ahead of 3", x.take(8, 16), false, x, 1);
        CHECK.due("1", x.take(0, -1), false, x, 1);
        CHECK.due("it stays", Check.shown(x, 4), "15/8");
    }

    // Promise 24
    private static void scale() {
        TuneBench x = major();
        CHECK.due("notes", x.scale(0), 7, x, 0);
        CHECK.due("three kinds of 1: no moment", x.scale(1), 0, x, 0);
        CHECK.due("no myth", x.scale(2), 0, x, 0);
        for (int wrong : new int[] {-1, 5, Integer.MAX_VALUE, Integer.MIN_VALUE}) {
            CHECK.due("scale(" + wrong + ")", x.scale(wrong), -1, x, 3);
        }
        x = octave();
        CHECK.due("one note: a moment", x.scale(1), 1, x, 0);
        CHECK.due("one note: no myth", x.scale(2), 0, x, 0);
        CHECK.due("one note: proper", x.scale(3), 1, x, 0);
        CHECK.due("one note: strict", x.scale(4), 1, x, 0);
        x = octave(new int[] {3, 2});
        CHECK.due("two notes: a myth", x.scale(2), 1, x, 0);
        x = new TuneBench();
        x.set(0, 6, 0, 0, 0, 0, 0);
        x.begin(0);
        for (int power : new int[] {1, 2, 4, 5}) {
            x.set(1, power, 0, 0, 0, 0, 0);
            x.note(1);
        }
        CHECK.due("steps 2 2 4 2 2: a moment", x.scale(1), 1, x, 0);
        CHECK.due("steps 2 2 4 2 2: a myth", x.scale(2), 1, x, 0);
        x.set(0, 7, 0, 0, 0, 0, 0);
        x.begin(0);
        for (int power : new int[] {1, 2, 3, 5}) {
            x.set(1, power, 0, 0, 0, 0, 0);
            x.note(1);
        }
        CHECK.due("steps 2 2 2 4 4: a moment", x.scale(1), 1, x, 0);
        CHECK.due("steps 2 2 2 4 4: no myth", x.scale(2), 0, x, 0);
        x.set(0, 4, 0, 0, 0, 0, 0);
        x.set(1, 2, 0, 0, 0, 0, 0);
        x.begin(0);
        x.note(1);
        CHECK.due("even: a moment", x.scale(1), 1, x, 0);
        CHECK.due("even: one kind is no myth", x.scale(2), 0, x, 0);
    }

    /** A scale whose steps are these powers of 2. */
    private static TuneBench powers(int... steps) {
        TuneBench x = new TuneBench();
        int sum = 0;
        for (int s : steps) {
            sum += s;
        }
        x.set(0, sum, 0, 0, 0, 0, 0);
        x.begin(0);
        int at = 0;
        for (int i = 0; i + 1 < steps.length; i++) {
            at += steps[i];
            x.set(1, at, 0, 0, 0, 0, 0);
            x.note(1);
        }
        return x;
    }

    private static void properAndStrict() {
        TuneBench x = powers(2, 2, 1, 2, 2, 2, 1);
        CHECK.due("2212221 proper", x.scale(3), 1, x, 0);
        CHECK.due("2212221 strict", x.scale(4), 0, x, 0);
        x = powers(1, 1, 2);
        CHECK.due("112 proper", x.scale(3), 1, x, 0);
        CHECK.due("112 strict", x.scale(4), 0, x, 0);
        x = powers(2, 2, 3);
        CHECK.due("223 proper", x.scale(3), 1, x, 0);
        CHECK.due("223 strict", x.scale(4), 1, x, 0);
        x = powers(1, 1, 3);
        CHECK.due("113 proper", x.scale(3), 0, x, 0);
        CHECK.due("113 strict", x.scale(4), 0, x, 0);
        x = powers(3, 3, 2, 2, 2);
        CHECK.due("33222: of 2 is 6, of 3 is 6", x.scale(3), 1, x, 0);
        CHECK.due("33222 strict", x.scale(4), 0, x, 0);
        x = powers(4, 4, 4, 3, 3, 3);
        CHECK.due("444333 proper: of 3 is 12, of 4 is 13", x.scale(3), 1, x, 0);
        CHECK.due("444333 strict", x.scale(4), 1, x, 0);
        x = powers(5, 5, 4, 2, 3, 4);
        CHECK.due("554234 proper: of 2 is 10, of 3 is 9", x.scale(3), 0, x, 0);
        x = powers(1, 23);
        CHECK.due("two notes are strict", x.scale(4), 1, x, 0);
        x = major();
        CHECK.due("9/8 10/9 16/15: proper", x.scale(3), 1, x, 0);
        CHECK.due("45/32 is below 64/45: strict", x.scale(4), 1, x, 0);
    }

    // Promise 25
    private static void kinds() {
        TuneBench x = major();
        int[] want = {3, 3, 3, 3, 3, 3, 1};
        for (int k = 1; k <= 7; k++) {
            CHECK.due("kinds(" + k + ")", x.kinds(k), want[k - 1], x, 0);
        }
        CHECK.due("kinds(0)", x.kinds(0), -1, x, 3);
        CHECK.due("kinds(8)", x.kinds(8), -1, x, 3);
        CHECK.due("kinds(-1)", x.kinds(Integer.MIN_VALUE), -1, x, 3);
        x = octave();
        CHECK.due("kinds(1) of one note", x.kinds(1), 1, x, 0);
        CHECK.due("kinds(2) of one note", x.kinds(2), -1, x, 3);
    }

    // Promise 26
    private static void step() {
        TuneBench x = major();
        String[] ones = {"16/15", "10/9", "9/8"};
        int[] often = {2, 2, 3};
        for (int j = 0; j < 3; j++) {
            CHECK.due("step(1, " + j + ")", x.step(1, j, 3), often[j], x, 0);
            CHECK.due("its ratio", Check.shown(x, 3), ones[j]);
        }
        String[] fourths = {"4/3", "27/20", "45/32"};
        int[] oftenFourths = {5, 1, 1};
        for (int j = 0; j < 3; j++) {
            CHECK.due("step(3, " + j + ")", x.step(3, j, 3), oftenFourths[j], x, 0);
            CHECK.due("its ratio", Check.shown(x, 3), fourths[j]);
        }
        CHECK.due("step(7, 0)", x.step(7, 0, 4), 7, x, 0);
        CHECK.due("the period", Check.shown(x, 4), "2/1");
        CHECK.due("step(7, 1)", x.step(7, 1, 4), -1, x, 3);
        CHECK.due("step(1, 3)", x.step(1, 3, 4), -1, x, 3);
        CHECK.due("step(1, -1)", x.step(1, -1, 4), -1, x, 3);
        CHECK.due("step(0, 0)", x.step(0, 0, 4), -1, x, 3);
        CHECK.due("step(8, 0)", x.step(8, 0, 4), -1, x, 3);
        CHECK.due("1 ahead of 3", x.step(8, 0, 16), -1, x, 1);
        CHECK.due("it stays", Check.shown(x, 4), "2/1");
        x.set(0, 24, 0, 0, 0, 0, 0);
        x.begin(0);
        x.set(1, -24, 24, 0, 0, 0, 0);
        x.note(1);
        CHECK.due("far: 2^48 by 3^24", x.step(1, 0, 4), -1, x, 4);
        CHECK.due("not far", x.step(1, 1, 4), 1, x, 0);
        CHECK.due("its exponent", x.exponent(4, 1), 24, x, 0);
    }

    // Promise 27
    private static void mode() {
        TuneBench x = major();
        CHECK.due("mode(0)", x.mode(0), true, x, 0);
        dueNotes("mode 0", x, "1/1", "9/8", "5/4", "4/3", "3/2", "5/3", "15/8", "2/1");
        CHECK.due("mode(5)", x.mode(5), true, x, 0);
        dueNotes("mode 5", x, "1/1", "9/8", "6/5", "27/20", "3/2", "8/5", "9/5", "2/1");
        CHECK.due("mode(7)", x.mode(7), false, x, 3);
        CHECK.due("mode(-1)", x.mode(-1), false, x, 3);
        CHECK.due("mode(2)", x.mode(2), true, x, 0);
        dueNotes("back", x, "1/1", "9/8", "5/4", "4/3", "3/2", "5/3", "15/8", "2/1");
        x.set(0, 24, 0, 0, 0, 0, 0);
        x.begin(0);
        x.set(1, -24, 24, 0, 0, 0, 0);
        x.set(2, 1, 0, 0, 0, 0, 0);
        x.note(1);
        x.note(2);
        CHECK.due("mode(2) is far", x.mode(2), false, x, 4);
        CHECK.due("3 ahead of 4", x.mode(3), false, x, 3);
        dueNotes("it stays", x, "1/1", "2/1", "282429536481/16777216", "16777216/1");
        CHECK.due("a note follows", x.mode(0), true, x, 0);
    }

    // Promise 28
    private static void follows() {
        TuneBench x = major();
        CHECK.due("7", x.follows(7), 1, x, 0);
        CHECK.due("12", x.follows(12), 0, x, 0);
        CHECK.due("0", x.follows(0), -1, x, 3);
        CHECK.due("100", x.follows(100), -1, x, 3);
        x.ratio(1, 4, 1);
        x.ratio(2, 2, 1);
        x.begin(1);
        CHECK.due("the period 4 has 2 steps of 1", x.follows(1), 0, x, 0);
        x.note(2);
        CHECK.due("and now 2 notes", x.follows(1), 1, x, 0);
        x = octave(new int[] {6, 5}, new int[] {5, 4});
        CHECK.due("the notes in 3 are 1 1", x.follows(3), 0, x, 0);
    }

    private static void withoutScale() {
        TuneBench x = new TuneBench();
        CHECK.due("take", x.take(0, 0), false, x, 7);
        CHECK.due("take, 7 ahead of 3", x.take(-1, 0), false, x, 7);
        CHECK.due("take, 1 ahead of 7", x.take(0, 16), false, x, 1);
        CHECK.due("scale", x.scale(5), -1, x, 7);
        CHECK.due("kinds", x.kinds(0), -1, x, 7);
        CHECK.due("step", x.step(0, 0, 0), -1, x, 7);
        CHECK.due("step, 1 ahead of 7", x.step(0, 0, -1), -1, x, 1);
        CHECK.due("mode", x.mode(-1), false, x, 7);
        CHECK.due("follows", x.follows(0), -1, x, 7);
    }
}
