import java.math.BigInteger;
import java.util.ArrayList;
import java.util.Arrays;
import java.util.List;

/**
 * The document's words once more, with the library's large numbers and without regard for speed: what TuneBench is
 * compared with. The calls have the same names; status is a field.
 */
final class Model {
    static final int[] PRIMES = {2, 3, 5, 7, 11, 13};

    int status = 0;
    final int[][] shelves = new int[16][];
    final List<int[]> commas = new ArrayList<>();
    int[] period = null;
    List<int[]> notes = null;
    String out = "";

    // ---- intervals

    static int[] by(int[] a, int[] b, int k) {
        int[] c = new int[6];
        for (int i = 0; i < 6; i++) {
            c[i] = a[i] + k * b[i];
        }
        return c;
    }

    static boolean beyond(int[] a, int limit) {
        return Arrays.stream(a).anyMatch(e -> e < -limit || e > limit);
    }

    static boolean far(int[] a) {
        return beyond(a, 24);
    }

    static BigInteger product(int[] a, int direction) {
        BigInteger p = BigInteger.ONE;
        for (int i = 0; i < 6; i++) {
            if (a[i] * direction > 0) {
                p = p.multiply(BigInteger.valueOf(PRIMES[i]).pow(a[i] * direction));
            }
        }
        return p;
    }

    static int sign(int[] a) {
        double log = 0;
        for (int i = 0; i < 6; i++) {
            log += a[i] * Math.log(PRIMES[i]);
        }
        if (Math.abs(log) > 0.001) {
            return log > 0 ? 1 : -1;
        }
        return product(a, 1).compareTo(product(a, -1));
    }

    static int compare(int[] a, int[] b) {
        return sign(by(a, b, -1));
    }

    /** Null if it is far: by a power beyond 1200 every interval of these tests is. */
    static int[] folded(int[] a, int[] p) {
        int[] r = a;
        for (int i = 0; i < 1200 && sign(r) < 0; i++) {
            r = by(r, p, 1);
        }
        for (int i = 0; i < 1200 && compare(r, p) >= 0; i++) {
            r = by(r, p, -1);
        }
        return sign(r) < 0 || compare(r, p) >= 0 || far(r) ? null : r;
    }

    // ---- statuses

    private int none(int why) {
        status = why;
        return -1;
    }

    private int yes(int value) {
        status = 0;
        return value;
    }

    private int bring(int[] a, int to) {
        if (a == null || far(a)) {
            status = 4;
            return 0;
        }
        shelves[to] = a;
        return yes(1);
    }

    private int no(int why) {
        status = why;
        return 0;
    }

    private int fault(int... asked) {
        for (int s : asked) {
            if (s < 0 || s > 15) {
                return 1;
            }
        }
        for (int s : asked) {
            if (shelves[s] == null) {
                return 2;
            }
        }
        return 0;
    }

    private static boolean isShelf(int s) {
        return s >= 0 && s <= 15;
    }

    private static boolean isDivision(int d) {
        return d >= 1 && d <= 99;
    }

    // ---- calls

    int set(int shelf, int[] e) {
        return isShelf(shelf) ? bring(e.clone(), shelf) : no(1);
    }

    int ratio(int shelf, int n, int d) {
        if (!isShelf(shelf)) {
            return no(1);
        }
        if (n < 1 || d < 1 || n > 1000000000 || d > 1000000000) {
            return no(3);
        }
        BigInteger g = BigInteger.valueOf(n).gcd(BigInteger.valueOf(d));
        long x = n / g.longValue();
        long y = d / g.longValue();
        int[] e = new int[6];
        for (int i = 0; i < 6; i++) {
            while (x % PRIMES[i] == 0) {
                x /= PRIMES[i];
                e[i]++;
            }
            while (y % PRIMES[i] == 0) {
                y /= PRIMES[i];
                e[i]--;
            }
        }
        return x != 1 || y != 1 ? no(4) : bring(e, shelf);
    }

    int times(int a, int b, int k, int to) {
        int f = isShelf(to) ? fault(a, b) : 1;
        if (f != 0) {
            return no(f);
        }
        return k < -24 || k > 24 ? no(3) : bring(by(shelves[a], shelves[b], k), to);
    }

    int fold(int a, int b, int to) {
        int f = isShelf(to) ? fault(a, b) : 1;
        if (f != 0) {
            return no(f);
        }
        return sign(shelves[b]) <= 0 ? no(5) : bring(folded(shelves[a], shelves[b]), to);
    }

    int drop(int shelf) {
        int f = fault(shelf);
        if (f != 0) {
            return no(f);
        }
        shelves[shelf] = null;
        return yes(1);
    }

    int exponent(int shelf, int k) {
        int f = fault(shelf);
        return f != 0 ? none(f) : k < 0 || k > 5 ? none(3) : yes(shelves[shelf][k]);
    }

    int order(int a, int b) {
        int f = fault(a, b);
        if (f != 0) {
            return none(f);
        }
        int c = compare(shelves[a], shelves[b]);
        return yes(c > 0 ? 1 : c == 0 ? 0 : -2);
    }

    int show(int shelf) {
        int f = fault(shelf);
        if (f != 0) {
            return none(f);
        }
        out = product(shelves[shelf], 1) + "/" + product(shelves[shelf], -1);
        return yes(out.length());
    }

    int out(int k) {
        return k < 0 || k >= out.length() ? -1 : out.charAt(k);
    }

    /** m is nearest to n log2 p, if 2 to the power 2m - 1 is below p to the power 2n, and that below 2m + 1. */
    static int nearest(int n, int k) {
        BigInteger p = BigInteger.valueOf(PRIMES[k]).pow(2 * n);
        int m = 0;
        while (p.compareTo(BigInteger.ONE.shiftLeft(2 * m + 1)) >= 0) {
            m++;
        }
        return m;
    }

    private static final int[][] MAPS = new int[100][];

    static int stepsOf(int[] a, int division) {
        if (MAPS[division] == null) {
            MAPS[division] = new int[6];
            for (int i = 0; i < 6; i++) {
                MAPS[division][i] = nearest(division, i);
            }
        }
        int sum = 0;
        for (int i = 0; i < 6; i++) {
            sum += a[i] * MAPS[division][i];
        }
        return sum;
    }

    int map(int division, int k) {
        return !isDivision(division) || k < 0 || k > 5 ? none(3) : yes(nearest(division, k));
    }

    int steps(int shelf, int division) {
        int f = fault(shelf);
        return f != 0 ? none(f) : !isDivision(division) ? none(3) : yes(stepsOf(shelves[shelf], division));
    }

    int comma(int shelf) {
        int f = fault(shelf);
        if (f != 0) {
            return none(f);
        }
        if (sign(shelves[shelf]) == 0) {
            return none(5);
        }
        if (commas.size() == 5) {
            return none(6);
        }
        commas.add(shelves[shelf]);
        return yes(commas.size());
    }

    int clear() {
        int n = commas.size();
        commas.clear();
        return yes(n);
    }

    /** By the first row's numbers and what stays without it. */
    static BigInteger determinant(List<int[]> rows, int columns) {
        if (rows.isEmpty()) {
            return BigInteger.ONE;
        }
        BigInteger sum = BigInteger.ZERO;
        int sign = 1;
        for (int c = 0; c < 6; c++) {
            if ((columns >> c & 1) != 0) {
                int e = rows.get(0)[c] * sign;
                if (e != 0) {
                    BigInteger part = determinant(rows.subList(1, rows.size()), columns & ~(1 << c));
                    sum = sum.add(part.multiply(BigInteger.valueOf(e)));
                }
                sign = -sign;
            }
        }
        return sum;
    }

    /** The greatest divisor of all determinants of this size; 0 if each is 0. */
    static BigInteger divisorOf(List<int[]> rows, int size) {
        BigInteger g = BigInteger.ZERO;
        for (int r = 0; r < 1 << rows.size(); r++) {
            if (Integer.bitCount(r) != size) {
                continue;
            }
            List<int[]> chosen = new ArrayList<>();
            for (int i = 0; i < rows.size(); i++) {
                if ((r >> i & 1) != 0) {
                    chosen.add(rows.get(i));
                }
            }
            for (int c = 0; c < 64; c++) {
                if (Integer.bitCount(c) == size) {
                    g = g.gcd(determinant(chosen, c));
                }
            }
        }
        return g;
    }

    static int rankOf(List<int[]> rows) {
        int rank = 0;
        while (rank < rows.size() && rank < 6 && divisorOf(rows, rank + 1).signum() != 0) {
            rank++;
        }
        return rank;
    }

    int rank() {
        return yes(rankOf(commas));
    }

    long twist() {
        status = 0;
        return divisorOf(commas, rankOf(commas)).longValueExact();
    }

    int vanishes(int shelf) {
        int f = fault(shelf);
        if (f != 0) {
            return none(f);
        }
        List<int[]> more = new ArrayList<>(commas);
        more.add(shelves[shelf]);
        return yes(rankOf(more) == rankOf(commas) ? 1 : 0);
    }

    int supports(int from) {
        if (!isDivision(from)) {
            return none(3);
        }
        for (int d = from; d <= 99; d++) {
            int division = d;
            if (commas.stream().allMatch(c -> stepsOf(c, division) == 0)) {
                return yes(d);
            }
        }
        return yes(0);
    }

    int begin(int shelf) {
        int f = fault(shelf);
        if (f != 0) {
            return no(f);
        }
        if (sign(shelves[shelf]) <= 0) {
            return no(5);
        }
        period = shelves[shelf];
        notes = new ArrayList<>();
        notes.add(new int[6]);
        return yes(1);
    }

    private static boolean has(List<int[]> rows, int[] a) {
        return rows.stream().anyMatch(r -> Arrays.equals(r, a));
    }

    int note(int shelf) {
        int f = fault(shelf);
        if (f != 0) {
            return none(f);
        }
        if (notes == null) {
            return none(7);
        }
        int[] a = folded(shelves[shelf], period);
        if (a == null) {
            return none(4);
        }
        if (has(notes, a)) {
            return none(8);
        }
        if (notes.size() == 24) {
            return none(6);
        }
        notes.add(a);
        notes.sort(Model::compare);
        return yes(notes.indexOf(a));
    }

    int lay(int p, int by, int many) {
        int f = fault(p, by);
        if (f != 0) {
            return no(f);
        }
        if (many < 1 || many > 24) {
            return no(3);
        }
        if (sign(shelves[p]) <= 0) {
            return no(5);
        }
        List<int[]> coming = new ArrayList<>();
        coming.add(new int[6]);
        boolean twice = false;
        for (int m = 1; m < many; m++) {
            int[] a = folded(by(new int[6], shelves[by], m), shelves[p]);
            if (a == null) {
                return no(4);
            }
            twice = twice || has(coming, a);
            coming.add(a);
        }
        if (twice) {
            return no(8);
        }
        coming.sort(Model::compare);
        period = shelves[p];
        notes = coming;
        return yes(1);
    }

    private int[] noteAt(int i) {
        int n = notes.size();
        return by(notes.get(Math.floorMod(i, n)), period, Math.floorDiv(i, n));
    }

    /** All n of them, the least first. */
    private List<int[]> stepsOfSize(int k) {
        List<int[]> steps = new ArrayList<>();
        for (int i = 0; i < notes.size(); i++) {
            steps.add(by(noteAt(i + k), noteAt(i), -1));
        }
        steps.sort(Model::compare);
        return steps;
    }

    private static List<int[]> unlike(List<int[]> steps) {
        List<int[]> kinds = new ArrayList<>();
        for (int[] s : steps) {
            if (!has(kinds, s)) {
                kinds.add(s);
            }
        }
        return kinds;
    }

    int take(int i, int to) {
        if (!isShelf(to)) {
            return no(1);
        }
        if (notes == null) {
            return no(7);
        }
        return i < 0 || i > notes.size() ? no(3) : bring(noteAt(i), to);
    }

    int scale(int what) {
        if (notes == null) {
            return none(7);
        }
        int n = notes.size();
        if (what < 0 || what > 4) {
            return none(3);
        }
        if (what == 0) {
            return yes(n);
        }
        if (what == 1) {
            return yes(unlike(stepsOfSize(1)).size() <= 2 ? 1 : 0);
        }
        boolean holds = what != 2 || n >= 2;
        for (int k = 1; k < n && holds; k++) {
            List<int[]> less = stepsOfSize(k);
            if (what == 2) {
                holds = unlike(less).size() == 2;
            } else {
                int c = compare(less.get(n - 1), stepsOfSize(k + 1).get(0));
                holds = what == 3 ? c <= 0 : c < 0;
            }
        }
        return yes(holds ? 1 : 0);
    }

    int kinds(int k) {
        if (notes == null) {
            return none(7);
        }
        return k < 1 || k > notes.size() ? none(3) : yes(unlike(stepsOfSize(k)).size());
    }

    int step(int k, int j, int to) {
        if (!isShelf(to)) {
            return none(1);
        }
        if (notes == null) {
            return none(7);
        }
        if (k < 1 || k > notes.size() || j < 0) {
            return none(3);
        }
        List<int[]> steps = stepsOfSize(k);
        List<int[]> kinds = unlike(steps);
        if (j >= kinds.size()) {
            return none(3);
        }
        int[] s = kinds.get(j);
        if (far(s)) {
            return none(4);
        }
        shelves[to] = s;
        return yes((int) steps.stream().filter(t -> Arrays.equals(s, t)).count());
    }

    int mode(int i) {
        if (notes == null) {
            return no(7);
        }
        if (i < 0 || i >= notes.size()) {
            return no(3);
        }
        List<int[]> coming = new ArrayList<>();
        for (int m = 0; m < notes.size(); m++) {
            int[] a = by(noteAt(i + m), noteAt(i), -1);
            if (far(a)) {
                return no(4);
            }
            coming.add(a);
        }
        notes = coming;
        return yes(1);
    }

    int follows(int division) {
        if (notes == null) {
            return none(7);
        }
        if (!isDivision(division)) {
            return none(3);
        }
        for (int i = 0; i <= notes.size(); i++) {
            if (stepsOf(noteAt(i), division) != i) {
                return yes(0);
            }
        }
        return yes(1);
    }

    int quotient(int a, int b, int k) {
        int f = fault(a, b);
        if (f != 0) {
            return none(f);
        }
        if (k < 0 || k > 19) {
            return none(3);
        }
        if (sign(shelves[a]) <= 0 || sign(shelves[b]) <= 0) {
            return none(5);
        }
        int[] x = shelves[a];
        int[] y = shelves[b];
        for (int i = 0; ; i++) {
            int q = -1;
            int[] rest = x;
            while (sign(rest) >= 0) {
                rest = by(rest, y, -1);
                q++;
                if (beyond(rest, 200)) {
                    return none(9);
                }
            }
            if (i == k) {
                return yes(q);
            }
            rest = by(rest, y, 1);
            if (sign(rest) == 0) {
                return yes(-2);
            }
            x = y;
            y = rest;
        }
    }
}
