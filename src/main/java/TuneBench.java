/** A tuning bench: exact intervals, equal divisions, commas, scales and quotients. */
public final class TuneBench {
    public static final int NONE = -1;

    private static final int[] PRIMES = {2, 3, 5, 7, 11, 13};
    private static final int PRIME_COUNT = 6;
    private static final int SHELF_COUNT = 16;
    private static final int FAR_LIMIT = 24;
    private static final int POWER_LIMIT = 24;
    private static final int RATIO_LIMIT = 1000000000;
    private static final int QUOTIENT_LIMIT = 19;
    private static final int BELOW = -2;
    private static final int NO_QUOTIENT = -2;
    private static final int TEXT_ROOM = 256;

    private static final int FINE = 0;
    private static final int NO_SHELF = 1;
    private static final int EMPTY = 2;
    private static final int WRONG_NUMBER = 3;
    private static final int FAR = 4;
    private static final int NOT_GREATER = 5;
    private static final int TOO_MANY = 6;
    private static final int NO_SCALE = 7;
    private static final int THERE_ALREADY = 8;
    private static final int DIM = 9;

    private final int[][] shelves;
    private final boolean[] filled;
    private final int[] made;
    private final byte[] text;
    private final Sizes sizes;
    private final Commas commas;
    private final Scale tuned;
    private final Measure measure;
    private int textLength;
    private int state;

    public TuneBench() {
        shelves = new int[SHELF_COUNT][PRIME_COUNT];
        filled = new boolean[SHELF_COUNT];
        made = new int[PRIME_COUNT];
        text = new byte[TEXT_ROOM];
        Sizes shared = new Sizes();
        sizes = shared;
        commas = new Commas();
        tuned = new Scale(shared);
        measure = new Measure(shared);
        textLength = 0;
        state = FINE;
    }

    public int status() {
        return state;
    }

    // ---- INTERVALS

    public boolean set(int shelf, int two, int three, int five, int seven, int eleven, int thirteen) {
        if (!isShelf(shelf)) {
            return refuse(NO_SHELF);
        }
        made[0] = two;
        made[1] = three;
        made[2] = five;
        made[3] = seven;
        made[4] = eleven;
        made[5] = thirteen;
        return putMade(shelf);
    }

    public boolean ratio(int shelf, int n, int d) {
        if (!isShelf(shelf)) {
            return refuse(NO_SHELF);
        }
        if (n < 1 || n > RATIO_LIMIT || d < 1 || d > RATIO_LIMIT) {
            return refuse(WRONG_NUMBER);
        }
        if (!Row.factor(n, d, made)) {
            return refuse(FAR);
        }
        return putMade(shelf);
    }

    public boolean times(int a, int b, int k, int to) {
        if (!isShelf(a) || !isShelf(b) || !isShelf(to)) {
            return refuse(NO_SHELF);
        }
        if (!filled[a] || !filled[b]) {
            return refuse(EMPTY);
        }
        if (k < -POWER_LIMIT || k > POWER_LIMIT) {
            return refuse(WRONG_NUMBER);
        }
        Row.combine(shelves[a], shelves[b], k, made);
        return putMade(to);
    }

    public boolean fold(int a, int b, int to) {
        if (!isShelf(a) || !isShelf(b) || !isShelf(to)) {
            return refuse(NO_SHELF);
        }
        if (!filled[a] || !filled[b]) {
            return refuse(EMPTY);
        }
        if (sizes.sign(shelves[b]) <= 0) {
            return refuse(NOT_GREATER);
        }
        if (!sizes.foldInto(shelves[a], shelves[b], made)) {
            return refuse(FAR);
        }
        return putMade(to);
    }

    public boolean drop(int shelf) {
        int fault = faultOf(shelf);
        if (fault != FINE) {
            return refuse(fault);
        }
        filled[shelf] = false;
        return accept();
    }

    public int exponent(int shelf, int k) {
        int fault = faultOf(shelf);
        if (fault != FINE) {
            return none(fault);
        }
        if (!isPrimeNumber(k)) {
            return none(WRONG_NUMBER);
        }
        return answer(shelves[shelf][k]);
    }

    public int order(int a, int b) {
        if (!isShelf(a) || !isShelf(b)) {
            return none(NO_SHELF);
        }
        if (!filled[a] || !filled[b]) {
            return none(EMPTY);
        }
        int sign = sizes.compareSizes(shelves[a], shelves[b]);
        return answer(sign < 0 ? BELOW : sign);
    }

    public int show(int shelf) {
        int fault = faultOf(shelf);
        if (fault != FINE) {
            return none(fault);
        }
        textLength = sizes.writeRatio(shelves[shelf], text);
        return answer(textLength);
    }

    public int out(int k) {
        if (k < 0 || k >= textLength || k >= text.length) {
            return NONE;
        }
        return text[k];
    }

    // ---- DIVISIONS

    public int map(int division, int k) {
        if (!Divisions.isDivision(division) || !isPrimeNumber(k)) {
            return none(WRONG_NUMBER);
        }
        return answer(Divisions.nearest(division, k));
    }

    public int steps(int shelf, int division) {
        int fault = faultOf(shelf);
        if (fault != FINE) {
            return none(fault);
        }
        if (!Divisions.isDivision(division)) {
            return none(WRONG_NUMBER);
        }
        return answer(Divisions.stepsOf(shelves[shelf], division));
    }

    // ---- COMMAS

    public int comma(int shelf) {
        int fault = faultOf(shelf);
        if (fault != FINE) {
            return none(fault);
        }
        if (Row.isOne(shelves[shelf])) {
            return none(NOT_GREATER);
        }
        if (!commas.add(shelves[shelf])) {
            return none(TOO_MANY);
        }
        return answer(commas.count);
    }

    public int clear() {
        int before = commas.count;
        commas.count = 0;
        return answer(before);
    }

    public int rank() {
        return answer(commas.findRank());
    }

    public long twist() {
        state = FINE;
        return commas.findTwist();
    }

    public int vanishes(int shelf) {
        int fault = faultOf(shelf);
        if (fault != FINE) {
            return none(fault);
        }
        return answer(commas.spans(shelves[shelf]) ? 1 : 0);
    }

    public int supports(int from) {
        if (!Divisions.isDivision(from)) {
            return none(WRONG_NUMBER);
        }
        return answer(commas.firstSupport(from));
    }

    // ---- THE SCALE

    public boolean begin(int shelf) {
        int fault = faultOf(shelf);
        if (fault != FINE) {
            return refuse(fault);
        }
        if (sizes.sign(shelves[shelf]) <= 0) {
            return refuse(NOT_GREATER);
        }
        tuned.start(shelves[shelf]);
        return accept();
    }

    public int note(int shelf) {
        int fault = faultOf(shelf);
        if (fault != FINE) {
            return none(fault);
        }
        if (!tuned.exists()) {
            return none(NO_SCALE);
        }
        if (!sizes.foldInto(shelves[shelf], tuned.period, made)) {
            return none(FAR);
        }
        if (tuned.notes.has(made)) {
            return none(THERE_ALREADY);
        }
        if (tuned.notes.isFull()) {
            return none(TOO_MANY);
        }
        return answer(tuned.notes.insert(tuned.notes.placeOf(made, sizes), made));
    }

    public boolean lay(int period, int by, int many) {
        if (!isShelf(period) || !isShelf(by)) {
            return refuse(NO_SHELF);
        }
        if (!filled[period] || !filled[by]) {
            return refuse(EMPTY);
        }
        if (many < 1 || many > NoteList.ROOM) {
            return refuse(WRONG_NUMBER);
        }
        if (sizes.sign(shelves[period]) <= 0) {
            return refuse(NOT_GREATER);
        }
        int fault = tuned.stack(shelves[period], shelves[by], many);
        return fault == FINE ? accept() : refuse(fault);
    }

    public boolean take(int i, int to) {
        if (!isShelf(to)) {
            return refuse(NO_SHELF);
        }
        if (!tuned.exists()) {
            return refuse(NO_SCALE);
        }
        if (i < 0 || i > tuned.notes.count) {
            return refuse(WRONG_NUMBER);
        }
        tuned.readNote(i, made);
        return putMade(to);
    }

    public int scale(int what) {
        if (!tuned.exists()) {
            return none(NO_SCALE);
        }
        switch (what) {
            case 0:
                return answer(tuned.notes.count);
            case 1:
                return answer(tuned.isMoment() ? 1 : 0);
            case 2:
                return answer(tuned.isMyth() ? 1 : 0);
            case 3:
                return answer(tuned.isOrderly(false) ? 1 : 0);
            case 4:
                return answer(tuned.isOrderly(true) ? 1 : 0);
            default:
                return none(WRONG_NUMBER);
        }
    }

    public int kinds(int k) {
        if (!tuned.exists()) {
            return none(NO_SCALE);
        }
        if (k < 1 || k > tuned.notes.count) {
            return none(WRONG_NUMBER);
        }
        return answer(tuned.gatherKinds(k));
    }

    public int step(int k, int j, int to) {
        if (!isShelf(to)) {
            return none(NO_SHELF);
        }
        if (!tuned.exists()) {
            return none(NO_SCALE);
        }
        if (k < 1 || k > tuned.notes.count) {
            return none(WRONG_NUMBER);
        }
        int found = tuned.gatherKinds(k);
        if (j < 0 || j >= found) {
            return none(WRONG_NUMBER);
        }
        int often = tuned.readKind(j, found, made);
        return putMade(to) ? often : NONE;
    }

    public boolean mode(int i) {
        if (!tuned.exists()) {
            return refuse(NO_SCALE);
        }
        if (i < 0 || i >= tuned.notes.count) {
            return refuse(WRONG_NUMBER);
        }
        return tuned.turn(i) ? accept() : refuse(FAR);
    }

    public int follows(int division) {
        if (!tuned.exists()) {
            return none(NO_SCALE);
        }
        if (!Divisions.isDivision(division)) {
            return none(WRONG_NUMBER);
        }
        return answer(tuned.agreesWith(division) ? 1 : 0);
    }

    // ---- QUOTIENTS

    public int quotient(int a, int b, int k) {
        if (!isShelf(a) || !isShelf(b)) {
            return none(NO_SHELF);
        }
        if (!filled[a] || !filled[b]) {
            return none(EMPTY);
        }
        if (k < 0 || k > QUOTIENT_LIMIT) {
            return none(WRONG_NUMBER);
        }
        if (sizes.sign(shelves[a]) <= 0 || sizes.sign(shelves[b]) <= 0) {
            return none(NOT_GREATER);
        }
        int told = measure.tell(shelves[a], shelves[b], k);
        return told == NONE ? none(DIM) : answer(told);
    }

    // ---- what the calls share

    private static boolean isShelf(int shelf) {
        return shelf >= 0 && shelf < SHELF_COUNT;
    }

    private static boolean isPrimeNumber(int k) {
        return k >= 0 && k < PRIME_COUNT;
    }

    private int faultOf(int shelf) {
        if (!isShelf(shelf)) {
            return NO_SHELF;
        }
        return filled[shelf] ? FINE : EMPTY;
    }

    private boolean putMade(int shelf) {
        if (!isShelf(shelf)) {
            return refuse(NO_SHELF);
        }
        if (!Row.isWithin(made, FAR_LIMIT)) {
            return refuse(FAR);
        }
        Row.copy(made, shelves[shelf]);
        filled[shelf] = true;
        return accept();
    }

    private boolean accept() {
        state = FINE;
        return true;
    }

    private boolean refuse(int why) {
        state = why;
        return false;
    }

    private int answer(int value) {
        state = FINE;
        return value;
    }

    private int none(int why) {
        state = why;
        return NONE;
    }

    /** Functions over rows of six exponents. */
    private static final class Row {
        private static final int DIVISOR_TURNS = 64;

        private Row() {
        }

        static void makeOne(int[] row) {
            for (int k = 0; k < PRIME_COUNT; k++) {
                row[k] = 0;
            }
        }

        static void copy(int[] from, int[] to) {
            System.arraycopy(from, 0, to, 0, PRIME_COUNT);
        }

        static void combine(int[] a, int[] b, int power, int[] to) {
            for (int k = 0; k < PRIME_COUNT; k++) {
                to[k] = a[k] + power * b[k];
            }
        }

        static boolean isWithin(int[] row, int limit) {
            for (int k = 0; k < PRIME_COUNT; k++) {
                if (row[k] < -limit || row[k] > limit) {
                    return false;
                }
            }
            return true;
        }

        static boolean isOne(int[] row) {
            return isWithin(row, 0);
        }

        static boolean isSame(int[] a, int[] b) {
            for (int k = 0; k < PRIME_COUNT; k++) {
                if (a[k] != b[k]) {
                    return false;
                }
            }
            return true;
        }

        /** Whether n by d, both above 0, has no other primes; its exponents come to the row. */
        static boolean factor(int n, int d, int[] to) {
            long common = commonDivisor(n, d);
            if (common < 1) {
                return false;
            }
            long upper = n / common;
            long lower = d / common;
            for (int k = 0; k < PRIME_COUNT; k++) {
                int exponent = 0;
                for (int turn = 0; turn < DIVISOR_TURNS && upper % PRIMES[k] == 0; turn++) {
                    upper /= PRIMES[k];
                    exponent++;
                }
                for (int turn = 0; turn < DIVISOR_TURNS && lower % PRIMES[k] == 0; turn++) {
                    lower /= PRIMES[k];
                    exponent--;
                }
                to[k] = exponent;
            }
            return upper == 1 && lower == 1;
        }

        static long commonDivisor(long a, long b) {
            long x = Math.abs(a);
            long y = Math.abs(b);
            // Two turns at least halve the greater number, so 63 bits are used up in 128.
            for (int turn = 0; turn < 128 && y != 0; turn++) {
                long rest = x % y;
                x = y;
                y = rest;
            }
            return x;
        }
    }

    /** A whole number above 0, large enough for products of the primes' 200th powers. */
    private static final class Natural {
        private static final int BASE = 1000000000;
        private static final int BASE_DIGITS = 9;
        private static final int WORD_ROOM = 104;
        // A waiting factor below 13 times this, by a word, with the carry, stays inside a long.
        private static final long WAITING_LIMIT = 600000000L;

        private final int[] words;
        private int length;
        // Small factors are gathered here first: one pass over the words then serves many of them.
        private long waiting;

        Natural() {
            words = new int[WORD_ROOM];
            words[0] = 1;
            length = 1;
            waiting = 1;
        }

        /** Becomes the product of the row's powers above 0, or, with direction -1, of those below, turned over. */
        void build(int[] row, int direction) {
            words[0] = 1;
            length = 1;
            waiting = 1;
            for (int k = 0; k < PRIME_COUNT; k++) {
                int power = direction * row[k];
                for (int i = 0; i < power; i++) {
                    if (waiting > WAITING_LIMIT) {
                        settle();
                    }
                    waiting *= PRIMES[k];
                }
            }
            settle();
        }

        private void settle() {
            long carry = 0;
            for (int i = 0; i < length; i++) {
                long product = words[i] * waiting + carry;
                carry = product / BASE;
                words[i] = (int) (product - carry * BASE);
            }
            // A waiting factor has up to ten digits, so that the carry may fill two words.
            for (int turn = 0; turn < 2 && carry != 0 && length < WORD_ROOM; turn++) {
                words[length] = (int) (carry % BASE);
                length++;
                carry /= BASE;
            }
            waiting = 1;
        }

        /** 1, 0 or -1, as this is greater than the other, the same, less. */
        int against(Natural other) {
            if (length != other.length) {
                return length > other.length ? 1 : -1;
            }
            for (int i = length - 1; i >= 0; i--) {
                if (words[i] != other.words[i]) {
                    return words[i] > other.words[i] ? 1 : -1;
                }
            }
            return 0;
        }

        /** Writes the digits from a place on; the place behind them. */
        int write(byte[] text, int from) {
            int place = from;
            boolean begun = false;
            for (int i = length - 1; i >= 0; i--) {
                int unit = BASE / 10;
                for (int digit = 0; digit < BASE_DIGITS && unit > 0; digit++) {
                    int value = words[i] / unit % 10;
                    begun = begun || value != 0;
                    if (begun && place >= 0 && place < text.length) {
                        text[place] = (byte) ('0' + value);
                        place++;
                    }
                    unit /= 10;
                }
            }
            return place;
        }
    }

    /** Sizes of intervals, told by whole numbers alone, and folding, which rests on them. */
    private static final class Sizes {
        // A bound for the powers of a period: no row that is folded has exponents above 23 times 24.
        private static final int POWER_BOUND = 1000;
        private static final int HALVINGS = 32;

        private final Natural upper;
        private final Natural lower;
        private final int[] between;

        Sizes() {
            upper = new Natural();
            lower = new Natural();
            between = new int[PRIME_COUNT];
        }

        /** 1, 0 or -1 for a row that is greater than ONE, ONE, below ONE. */
        int sign(int[] row) {
            boolean rises = false;
            boolean falls = false;
            for (int k = 0; k < PRIME_COUNT; k++) {
                rises = rises || row[k] > 0;
                falls = falls || row[k] < 0;
            }
            if (!rises || !falls) {
                return rises ? 1 : falls ? -1 : 0;
            }
            upper.build(row, 1);
            lower.build(row, -1);
            return upper.against(lower);
        }

        int compareSizes(int[] a, int[] b) {
            Row.combine(a, b, -1, between);
            return sign(between);
        }

        int writeRatio(int[] row, byte[] text) {
            upper.build(row, 1);
            lower.build(row, -1);
            int place = upper.write(text, 0);
            if (place < text.length) {
                text[place] = '/';
                place++;
            }
            return lower.write(text, place);
        }

        /** Folds a row into a period that is greater than ONE; false if what comes is far. */
        boolean foldInto(int[] row, int[] period, int[] to) {
            int least = -POWER_BOUND;
            int most = POWER_BOUND;
            for (int k = 0; k < PRIME_COUNT; k++) {
                int exponent = row[k];
                int by = period[k];
                if (by > 0) {
                    least = Math.max(least, -Math.floorDiv(exponent + FAR_LIMIT, by));
                    most = Math.min(most, Math.floorDiv(FAR_LIMIT - exponent, by));
                } else if (by < 0) {
                    least = Math.max(least, -Math.floorDiv(FAR_LIMIT - exponent, -by));
                    most = Math.min(most, Math.floorDiv(exponent + FAR_LIMIT, -by));
                } else if (exponent < -FAR_LIMIT || exponent > FAR_LIMIT) {
                    return false;
                }
            }
            return least <= most && foldBetween(row, period, least, most, to);
        }

        /** The powers from least to most are those that leave the row near; one of them may fold it. */
        private boolean foldBetween(int[] row, int[] period, int least, int most, int[] to) {
            int low = least;
            int high = most;
            for (int turn = 0; turn < HALVINGS && low < high; turn++) {
                int middle = Math.floorDiv(low + high, 2);
                Row.combine(row, period, middle, to);
                if (sign(to) >= 0) {
                    high = middle;
                } else {
                    low = middle + 1;
                }
            }
            Row.combine(row, period, low, to);
            Row.combine(to, period, -1, between);
            return sign(to) >= 0 && sign(between) < 0;
        }
    }

    /** Equal divisions of 2 and their maps. */
    private static final class Divisions {
        private static final int GREATEST = 99;
        // The primes' logarithms to the base 2, in units of which there are so many to 1.
        private static final long UNITS = 1000000000000L;
        private static final long[] LOGARITHMS = {
            1000000000000L, 1584962500721L, 2321928094887L, 2807354922058L, 3459431618637L, 3700439718141L};

        private Divisions() {
        }

        static boolean isDivision(int division) {
            return division >= 1 && division <= GREATEST;
        }

        static int nearest(int division, int prime) {
            if (!isPrimeNumber(prime)) {
                return 0;
            }
            return (int) ((2 * division * LOGARITHMS[prime] + UNITS) / (2 * UNITS));
        }

        static int stepsOf(int[] row, int division) {
            int sum = 0;
            for (int k = 0; k < PRIME_COUNT; k++) {
                if (row[k] != 0) {
                    sum += row[k] * nearest(division, k);
                }
            }
            return sum;
        }
    }

    /** The commas, and what their table of exponents tells. */
    private static final class Commas {
        private static final int ROOM = 5;

        private final int[][] rows;
        private final long[][] table;
        private int count;
        private long lastPivot;

        Commas() {
            rows = new int[ROOM][PRIME_COUNT];
            table = new long[ROOM + 1][PRIME_COUNT];
            count = 0;
            lastPivot = 1;
        }

        boolean add(int[] row) {
            if (count < 0 || count >= ROOM) {
                return false;
            }
            Row.copy(row, rows[count]);
            count++;
            return true;
        }

        int findRank() {
            fillTable();
            return eliminate(count, PRIME_COUNT);
        }

        /** Whether a power of the row, not 0, is a product of powers of the commas. */
        boolean spans(int[] row) {
            int rank = findRank();
            fillTable();
            for (int k = 0; k < PRIME_COUNT; k++) {
                table[count][k] = row[k];
            }
            return eliminate(count + 1, PRIME_COUNT) == rank;
        }

        long findTwist() {
            int rank = findRank();
            if (rank == 0) {
                return 1;
            }
            long common = 0;
            for (int chosen = 0; chosen < 1 << count; chosen++) {
                for (int primes = 0; primes < 1 << PRIME_COUNT && common != 1; primes++) {
                    if (Integer.bitCount(chosen) == rank && Integer.bitCount(primes) == rank) {
                        common = Row.commonDivisor(common, determinant(chosen, primes, rank));
                    }
                }
            }
            return common;
        }

        int firstSupport(int from) {
            for (int division = from; division <= Divisions.GREATEST; division++) {
                if (isSupportedBy(division)) {
                    return division;
                }
            }
            return 0;
        }

        private boolean isSupportedBy(int division) {
            for (int i = 0; i < count; i++) {
                if (Divisions.stepsOf(rows[i], division) != 0) {
                    return false;
                }
            }
            return true;
        }

        private void fillTable() {
            for (int i = 0; i < count; i++) {
                for (int k = 0; k < PRIME_COUNT; k++) {
                    table[i][k] = rows[i][k];
                }
            }
        }

        /** Without its sign, of the commas and primes whose bits are set, as many of each as the size. */
        private long determinant(int chosen, int primes, int size) {
            int line = 0;
            for (int i = 0; i < count; i++) {
                if ((chosen >> i & 1) != 0) {
                    int place = 0;
                    for (int k = 0; k < PRIME_COUNT; k++) {
                        if ((primes >> k & 1) != 0) {
                            table[line][place] = rows[i][k];
                            place++;
                        }
                    }
                    line++;
                }
            }
            return eliminate(size, size) == size ? Math.abs(lastPivot) : 0;
        }

        /**
         * Brings the table's first lines into steps and tells their rank. Each number stays a determinant of the
         * table (Bareiss), so that the divisions leave no rest and, with six lines at most, no product leaves a long.
         */
        private int eliminate(int lines, int columns) {
            int rank = 0;
            lastPivot = 1;
            for (int column = 0; column < columns && rank < lines; column++) {
                if (raisePivot(rank, lines, column)) {
                    long pivot = table[rank][column];
                    for (int i = rank + 1; i < lines; i++) {
                        reduceLine(table[i], table[rank], column, columns);
                    }
                    lastPivot = pivot;
                    rank++;
                }
            }
            return rank;
        }

        private boolean raisePivot(int rank, int lines, int column) {
            for (int i = rank; i < lines; i++) {
                if (table[i][column] != 0) {
                    long[] line = table[i];
                    table[i] = table[rank];
                    table[rank] = line;
                    return true;
                }
            }
            return false;
        }

        private void reduceLine(long[] line, long[] pivotLine, int column, int columns) {
            if (lastPivot == 0) {
                return;
            }
            long head = line[column];
            for (int k = column; k < columns; k++) {
                line[k] = (line[k] * pivotLine[column] - head * pivotLine[k]) / lastPivot;
            }
        }
    }

    /** Up to 24 unlike intervals, the least first. */
    private static final class NoteList {
        private static final int ROOM = 24;
        private static final int HALVINGS = 8;

        private final int[][] rows;
        private int count;

        NoteList() {
            rows = new int[ROOM][PRIME_COUNT];
            count = 0;
        }

        boolean isFull() {
            return count >= ROOM;
        }

        /** Leaves ONE alone. */
        void restart() {
            Row.makeOne(rows[0]);
            count = 1;
        }

        boolean has(int[] row) {
            for (int i = 0; i < count; i++) {
                if (Row.isSame(rows[i], row)) {
                    return true;
                }
            }
            return false;
        }

        /** Puts a row at a place, and tells it; where no room is left, nothing comes. */
        int insert(int place, int[] row) {
            if (count < 0 || count >= ROOM || place < 0 || place > count) {
                return NONE;
            }
            int[] spare = rows[count];
            for (int i = count; i > place; i--) {
                rows[i] = rows[i - 1];
            }
            rows[place] = spare;
            Row.copy(row, spare);
            count++;
            return place;
        }

        /** How many of the rows are below this one. */
        int placeOf(int[] row, Sizes sizes) {
            int low = 0;
            int high = count;
            for (int turn = 0; turn < HALVINGS && low < high; turn++) {
                int middle = (low + high) / 2;
                if (sizes.compareSizes(rows[middle], row) < 0) {
                    low = middle + 1;
                } else {
                    high = middle;
                }
            }
            return low;
        }
    }

    /** The scale: a period and its notes; there is none as long as the list of notes is empty. */
    private static final class Scale {
        private final Sizes sizes;
        private final int[] period;
        private final int[] made;
        private final int[] unfolded;
        private final int[] highest;
        private final int[][] kindRows;
        private final int[] kindCounts;
        private NoteList notes;
        // What lay and mode build, so that the scale that was can stay if they fail.
        private NoteList coming;

        Scale(Sizes shared) {
            sizes = shared;
            period = new int[PRIME_COUNT];
            made = new int[PRIME_COUNT];
            unfolded = new int[PRIME_COUNT];
            highest = new int[PRIME_COUNT];
            kindRows = new int[NoteList.ROOM][PRIME_COUNT];
            kindCounts = new int[NoteList.ROOM];
            notes = new NoteList();
            coming = new NoteList();
        }

        boolean exists() {
            return notes.count > 0;
        }

        void start(int[] newPeriod) {
            Row.copy(newPeriod, period);
            notes.restart();
        }

        /** Lays powers of an interval; FINE, or why the scale that was stays. */
        int stack(int[] newPeriod, int[] by, int many) {
            boolean twice = false;
            coming.restart();
            for (int power = 1; power < many; power++) {
                Row.combine(by, by, power - 1, unfolded);
                if (!sizes.foldInto(unfolded, newPeriod, made)) {
                    return FAR;
                }
                if (coming.has(made)) {
                    twice = true;
                } else {
                    coming.insert(coming.placeOf(made, sizes), made);
                }
            }
            if (twice) {
                return THERE_ALREADY;
            }
            Row.copy(newPeriod, period);
            takeComing();
            return FINE;
        }

        /** Makes the mode from a note on; false, and no change, if a note of it would be far. */
        boolean turn(int first) {
            for (int m = 0; m < notes.count; m++) {
                readStep(first, m, coming.rows[m]);
                if (!Row.isWithin(coming.rows[m], FAR_LIMIT)) {
                    return false;
                }
            }
            coming.count = notes.count;
            takeComing();
            return true;
        }

        private void takeComing() {
            NoteList before = notes;
            notes = coming;
            coming = before;
        }

        /** Note i, from 0 to twice as many as there are. */
        void readNote(int i, int[] to) {
            int many = notes.count;
            if (many < 1 || i < 0) {
                return;
            }
            Row.combine(notes.rows[i % many], period, i / many, to);
        }

        private void readStep(int i, int k, int[] to) {
            if (i < 0 || i >= notes.count) {
                return;
            }
            readNote(i + k, to);
            Row.combine(to, notes.rows[i], -1, to);
        }

        /** Gathers the unlike steps of k, as they come, and how often each is there; how many they are. */
        int gatherKinds(int k) {
            int found = 0;
            for (int i = 0; i < notes.count; i++) {
                readStep(i, k, made);
                int kind = 0;
                while (kind < found && !Row.isSame(kindRows[kind], made)) {
                    kind++;
                }
                if (kind == found && found < NoteList.ROOM) {
                    Row.copy(made, kindRows[found]);
                    kindCounts[found] = 0;
                    found++;
                }
                if (kind < found) {
                    kindCounts[kind]++;
                }
            }
            return found;
        }

        /** Of so many gathered kinds the j-th by size; how often it is there. */
        int readKind(int j, int found, int[] to) {
            for (int i = 0; i <= j && i < found; i++) {
                int least = i;
                for (int other = i + 1; other < found; other++) {
                    if (sizes.compareSizes(kindRows[other], kindRows[least]) < 0) {
                        least = other;
                    }
                }
                swapKinds(i, least);
            }
            if (j < 0 || j >= found) {
                return NONE;
            }
            Row.copy(kindRows[j], to);
            return kindCounts[j];
        }

        private void swapKinds(int a, int b) {
            int[] row = kindRows[a];
            kindRows[a] = kindRows[b];
            kindRows[b] = row;
            int often = kindCounts[a];
            kindCounts[a] = kindCounts[b];
            kindCounts[b] = often;
        }

        boolean isMoment() {
            return gatherKinds(1) <= 2;
        }

        boolean isMyth() {
            for (int k = 1; k < notes.count; k++) {
                if (gatherKinds(k) != 2) {
                    return false;
                }
            }
            return notes.count >= 2;
        }

        /** PROPER, or, if strictly, STRICT. */
        boolean isOrderly(boolean strictly) {
            for (int k = 1; k <= notes.count; k++) {
                int found = gatherKinds(k);
                int limit = strictly ? 1 : 0;
                if (k > 1 && !allReach(found, limit)) {
                    return false;
                }
                findHighest(found);
            }
            return true;
        }

        /** Whether each gathered kind, compared with the highest step of k - 1, gives at least the limit. */
        private boolean allReach(int found, int limit) {
            for (int kind = 0; kind < found; kind++) {
                if (sizes.compareSizes(kindRows[kind], highest) < limit) {
                    return false;
                }
            }
            return true;
        }

        private void findHighest(int found) {
            for (int kind = 0; kind < found; kind++) {
                if (kind == 0 || sizes.compareSizes(kindRows[kind], highest) > 0) {
                    Row.copy(kindRows[kind], highest);
                }
            }
        }

        boolean agreesWith(int division) {
            for (int i = 0; i <= notes.count; i++) {
                readNote(i, made);
                if (Divisions.stepsOf(made, division) != i) {
                    return false;
                }
            }
            return true;
        }
    }

    /** How two intervals measure one another. */
    private static final class Measure {
        private static final int CLEAR_LIMIT = 200;
        // A power that moves an exponent from one end of the clear range to the other is 400 at most.
        private static final int DOUBLINGS = 10;

        private final Sizes sizes;
        private final int[] made;
        private int[] x;
        private int[] y;

        Measure(Sizes shared) {
            sizes = shared;
            made = new int[PRIME_COUNT];
            x = new int[PRIME_COUNT];
            y = new int[PRIME_COUNT];
        }

        /** Quotient k of a and b, both greater than ONE; NO_QUOTIENT if there is none such, NONE if it is dim. */
        int tell(int[] a, int[] b, int k) {
            Row.copy(a, x);
            Row.copy(b, y);
            for (int i = 0; i <= k; i++) {
                int passing = firstBelowOne();
                if (passing == 0) {
                    return NONE;
                }
                if (i == k) {
                    return passing - 1;
                }
                Row.combine(x, y, 1 - passing, x);
                if (Row.isOne(x)) {
                    return NO_QUOTIENT;
                }
                int[] rest = x;
                x = y;
                y = rest;
            }
            return NO_QUOTIENT;
        }

        /** The least power of y by which x is greater than ONE no more; 0 if that isn't clear. */
        private int firstBelowOne() {
            int low = 0;
            int high = 1;
            for (int turn = 0; turn < DOUBLINGS && stays(high); turn++) {
                low = high;
                high *= 2;
            }
            for (int turn = 0; turn < DOUBLINGS && low + 1 < high; turn++) {
                int middle = (low + high) / 2;
                if (stays(middle)) {
                    low = middle;
                } else {
                    high = middle;
                }
            }
            Row.combine(x, y, -high, made);
            return Row.isWithin(made, CLEAR_LIMIT) ? high : 0;
        }

        /** Whether x by y to the opposite power is clear, and ONE or greater. */
        private boolean stays(int power) {
            Row.combine(x, y, -power, made);
            return Row.isWithin(made, CLEAR_LIMIT) && sizes.sign(made) >= 0;
        }
    }
}
