import java.util.Random;

/** Long runs of calls, the same each time, whose every answer and STATUS is compared with the Model's. */
public final class RandomRunsTest {
    private static final int[][] KNOWN = {
        {2, 1}, {3, 2}, {4, 3}, {5, 4}, {6, 5}, {9, 8}, {10, 9}, {16, 15}, {25, 24}, {81, 80}, {128, 125}, {225, 224},
        {7, 4}, {7, 6}, {11, 8}, {13, 8}, {3, 1}, {64, 63}, {100, 99}, {2048, 2025}, {1, 1}, {1, 2}, {2, 3}, {15, 8},
        {32805, 32768}, {531441, 524288}, {126, 125}, {36, 35}, {50, 49}, {1029, 1024}, {17, 16}, {34, 17}, {1 << 24, 1},
        {1 << 25, 1}, {999999999, 1}, {1000000000, 999999999}, {4375, 4374}, {2401, 2400}, {9801, 9800}, {123201, 123200}};

    private final Random random;
    private final Check check;
    private final int seed;
    private TuneBench bench;
    private Model model;
    private int calls;

    private RandomRunsTest(int seed, Check check) {
        this.seed = seed;
        this.check = check;
        random = new Random(seed);
        bench = new TuneBench();
        model = new Model();
    }

    public static void main(String[] args) {
        int runs = args.length > 0 ? Integer.parseInt(args[0]) : 600;
        Check check = new Check();
        for (int seed = 0; seed < runs && check.isFine(); seed++) {
            new RandomRunsTest(seed, check).run();
        }
        check.finish();
    }

    private void run() {
        int style = seed % 4;
        if (seed % 3 != 0) {
            prepare(style);
        }
        for (calls = 0; calls < 256; calls++) {
            one(style);
        }
    }

    /** Full shelves and a scale, so that fewer calls are refused at once. */
    private void prepare(int style) {
        for (int s = 0; s < 16; s++) {
            int[] e = exponents(style);
            due("set " + s, bench.set(s, e[0], e[1], e[2], e[3], e[4], e[5]), model.set(s, e));
        }
        int octaves = seed % 5 == 0 ? 3 : 1;
        due("ratio 0", bench.ratio(0, octaves * 2, 1), model.ratio(0, octaves * 2, 1));
        due("ratio 1", bench.ratio(1, 3, 2), model.ratio(1, 3, 2));
        due("begin 0", bench.begin(0), model.begin(0));
    }

    private int pick(int n) {
        return random.nextInt(n);
    }

    private int shelf() {
        int way = pick(60);
        return way == 0 ? -1 : way == 1 ? 16 : way == 2 ? random.nextInt() : pick(way < 30 ? 5 : 16);
    }

    /** From low to high, at times one beside them or any number. */
    private int number(int low, int high) {
        int way = pick(30);
        return way == 0 ? low - 1 : way == 1 ? high + 1 : way == 2 ? random.nextInt() : low + pick(high - low + 1);
    }

    private int[] exponents(int style) {
        int[] e = new int[6];
        int reach = style == 0 ? 2 : style == 1 ? 5 : style == 2 ? 12 : 24;
        int primes = 1 + pick(6);
        for (int i = 0; i < primes; i++) {
            e[i] = pick(2 * reach + 1) - reach;
        }
        if (pick(40) == 0) {
            e[pick(6)] = pick(2) == 0 ? 25 : random.nextInt();
        }
        return e;
    }

    private void due(String call, long got, long want) {
        String told = "seed " + seed + ", call " + calls + ": " + call;
        check.due(told, got, want);
        check.due(told + ", status()", bench.status(), model.status);
    }

    private void due(String call, boolean got, int want) {
        due(call, got ? 1 : 0, want);
    }

    private void one(int style) {
        int way = pick(100);
        if (way < 22) {
            fill(style);
        } else if (way < 50) {
            intervals();
        } else if (way < 65) {
            commas();
        } else if (way < 72) {
            quotients();
        } else {
            scales();
        }
    }

    private void fill(int style) {
        int s = shelf();
        if (pick(2) == 0) {
            int[] e = exponents(style);
            due("set " + s, bench.set(s, e[0], e[1], e[2], e[3], e[4], e[5]), model.set(s, e));
        } else {
            int[] known = KNOWN[pick(KNOWN.length)];
            int n = pick(40) == 0 ? number(1, 1000000000) : known[0];
            int d = pick(40) == 0 ? number(1, 1000000000) : known[1];
            due("ratio " + s + " " + n + " " + d, bench.ratio(s, n, d), model.ratio(s, n, d));
        }
    }

    private void intervals() {
        int a = shelf();
        int b = shelf();
        int to = shelf();
        int k = pick(3) == 0 ? number(-24, 24) : pick(7) - 3;
        switch (pick(9)) {
            case 0, 1 -> due("times " + a + " " + b + " " + k + " " + to, bench.times(a, b, k, to), model.times(a, b, k, to));
            case 2 -> due("fold " + a + " " + b + " " + to, bench.fold(a, b, to), model.fold(a, b, to));
            case 3 -> {
                if (pick(4) == 0) {
                    due("drop " + a, bench.drop(a), model.drop(a));
                }
            }
            case 4 -> {
                int e = number(0, 5);
                due("exponent " + a + " " + e, bench.exponent(a, e), model.exponent(a, e));
            }
            case 5 -> due("order " + a + " " + b, bench.order(a, b), model.order(a, b));
            case 6 -> shown(a);
            case 7 -> {
                int division = number(1, 99);
                int e = number(0, 5);
                due("map " + division + " " + e, bench.map(division, e), model.map(division, e));
            }
            default -> {
                int division = number(1, 99);
                due("steps " + a + " " + division, bench.steps(a, division), model.steps(a, division));
            }
        }
    }

    private void shown(int a) {
        due("show " + a, bench.show(a), model.show(a));
        for (int i = -1; i <= model.out.length(); i++) {
            due("out " + i, bench.out(i), model.out(i));
        }
    }

    private void commas() {
        int a = shelf();
        int from = number(1, 99);
        switch (pick(10)) {
            case 0, 1, 2 -> due("comma " + a, bench.comma(a), model.comma(a));
            case 3 -> {
                if (pick(3) == 0) {
                    due("clear", bench.clear(), model.clear());
                }
            }
            case 4 -> due("rank", bench.rank(), model.rank());
            case 5 -> due("twist", bench.twist(), model.twist());
            case 6, 7 -> due("vanishes " + a, bench.vanishes(a), model.vanishes(a));
            default -> due("supports " + from, bench.supports(from), model.supports(from));
        }
    }

    private void quotients() {
        int a = shelf();
        int b = shelf();
        int k = pick(2) == 0 ? pick(6) : number(0, 19);
        due("quotient " + a + " " + b + " " + k, bench.quotient(a, b, k), model.quotient(a, b, k));
    }

    private void scales() {
        int a = shelf();
        int b = shelf();
        int n = model.notes == null ? 3 : model.notes.size();
        switch (pick(16)) {
            case 0 -> {
                if (pick(4) == 0) {
                    due("begin " + a, bench.begin(a), model.begin(a));
                }
            }
            case 1, 2, 3, 4, 5 -> due("note " + a, bench.note(a), model.note(a));
            case 6 -> {
                int many = number(1, 24);
                if (pick(3) == 0) {
                    due("lay " + a + " " + b + " " + many, bench.lay(a, b, many), model.lay(a, b, many));
                }
            }
            case 7 -> {
                int i = number(0, n);
                due("take " + i + " " + a, bench.take(i, a), model.take(i, a));
            }
            case 8, 9, 10 -> {
                int what = number(0, 4);
                due("scale " + what, bench.scale(what), model.scale(what));
            }
            case 11 -> {
                int k = number(1, n);
                due("kinds " + k, bench.kinds(k), model.kinds(k));
            }
            case 12, 13 -> {
                int k = number(1, n);
                int j = number(0, pick(2) == 0 ? 2 : n - 1);
                due("step " + k + " " + j + " " + a, bench.step(k, j, a), model.step(k, j, a));
            }
            case 14 -> {
                int i = number(0, n - 1);
                due("mode " + i, bench.mode(i), model.mode(i));
            }
            default -> {
                int division = pick(2) == 0 ? n : number(1, 99);
                due("follows " + division, bench.follows(division), model.follows(division));
            }
        }
    }
}
