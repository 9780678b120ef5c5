import java.util.Arrays;

/** The edges of promises 20 to 28: no scale, one note, 24 notes, one too many; wrap-around; what is far. */
public final class EdgesOfScaleTest {
    private static final Edge EDGE = new Edge();
    private static final int OCTAVE = Benches.OCTAVE;
    private static final int FIFTH = Benches.FIFTH;
    private static final int UNISON = Benches.UNISON;
    private static final int FALLING = Benches.FALLING;
    private static final int HIGH = Benches.HIGH;
    private static final int THIRD = Benches.THIRD;
    private static final int BARE = Benches.BARE;
    private static final int FREE = Benches.FREE;
    private static final int TWELFTH = Benches.TWELFTH;
    private static final String FREE_SHELF = "shelf " + FREE;
    private static final int[] ENDS = {Integer.MAX_VALUE, Integer.MIN_VALUE};

    public static void main(String[] args) {
        beginGreaterThanOne();
        beginAnew();
        beginOrder();
        noteNumber();
        noteFolded();
        noteUpTo24();
        noteThereAlready();
        noteFar();
        noteOrder();
        layFrom1To24();
        layPeriodGreaterThanOne();
        layFarAtLast();
        layFarBetween();
        layTwoTheSame();
        layOrder();
        layWithoutAScaleBefore();
        theScaleThatWasStays();
        takeFrom0ToN();
        takeOrder();
        scaleFrom0To4();
        scaleOrder();
        moment();
        myth();
        properAndStrict();
        kindsFrom1ToN();
        kindsOrder();
        stepOfKFrom1ToN();
        stepByJ();
        stepHowOften();
        stepFar();
        stepOrder();
        modeFrom0ToNLess1();
        modeFar();
        modeFarAnywhere();
        modeOrder();
        followsFrom1To99();
        followsEachNote();
        followsOrder();
        EDGE.finish();
    }

    /** The furnished bench with a ratio on shelf 11. */
    private static Edge.Recipe with(int n, int d) {
        return x -> {
            Benches.furnished(x);
            x.ratio(11, n, d);
        };
    }

    /** The furnished bench with a row on shelf 11. */
    private static Edge.Recipe withRow(int... e) {
        return x -> {
            Benches.furnished(x);
            x.set(11, e[0], e[1], e[2], e[3], e[4], e[5]);
        };
    }

    /** The furnished bench with the scale whose steps are these powers of 2. */
    private static Edge.Recipe powers(int... steps) {
        int sum = 0;
        int[][] notes = new int[steps.length - 1][];
        for (int i = 0; i < steps.length; i++) {
            sum += steps[i];
            if (i < notes.length) {
                notes[i] = new int[] {sum, 0};
            }
        }
        int[] period = {sum, 0};
        return x -> Benches.scaled(x, period, notes);
    }

    private static int[] row(int two, int three) {
        return new int[] {two, three};
    }

    // Promise 20, "5": the PERIOD is GREATER than ONE (the one nearest to ONE is asked in EdgesOfTermsTest).
    private static void beginGreaterThanOne() {
        EDGE.denies("begin with ONE", Benches::furnished, x -> x.begin(UNISON), 5);
        EDGE.denies("begin below ONE", Benches::furnished, x -> x.begin(FALLING), 5);
        EDGE.denies("begin with ONE, no scale before", Benches::plain, x -> x.begin(UNISON), 5);
        EDGE.denies("begin with 4374/4375", withRow(1, 7, -4, -1, 0, 0), x -> x.begin(11), 5);
        EDGE.does("begin with 4375/4374", withRow(-1, -7, 4, 1, 0, 0), x -> x.begin(11), "scale", "1/1 4375/4374");
    }

    // Promise 20: "A SCALE begins, ... and ONE alone": whatever was there.
    private static void beginAnew() {
        EDGE.does("begin", Benches::plain, x -> x.begin(OCTAVE), "scale", "1/1 2/1");
        EDGE.does("begin anew", Benches::furnished, x -> x.begin(OCTAVE), "scale", "1/1 2/1");
        EDGE.does("begin with another period", Benches::furnished, x -> x.begin(TWELFTH), "scale", "1/1 3/1");
        EDGE.does("begin behind 24 notes", x -> Benches.powersOfTwo(x, 24), x -> x.begin(FIFTH), "scale", "1/1 3/2");
        Edge.Recipe dropped = x -> {
            Benches.furnished(x);
            x.drop(OCTAVE);
        };
        EDGE.tells("the period is not its shelf", dropped, x -> x.scale(0), 4);
    }

    // Promise 20: "(1, 2, 5)".
    private static void beginOrder() {
        for (int shelf : Edge.NO_SHELVES) {
            EDGE.denies("begin, 1", Benches::furnished, x -> x.begin(shelf), 1);
            EDGE.denies("begin, 1, no scale before", Benches::plain, x -> x.begin(shelf), 1);
        }
        EDGE.denies("begin, 2", Benches::furnished, x -> x.begin(BARE), 2);
        EDGE.denies("begin, 2, no scale before", Benches::plain, x -> x.begin(BARE), 2);
    }

    // Promise 21: "is a NOTE more: its number": the first place behind ONE, the last, those between.
    private static void noteNumber() {
        EDGE.changes("the first of all", x -> {
            Benches.plain(x);
            x.begin(OCTAVE);
        }, x -> x.note(FIFTH), 1, "scale", "1/1 3/2 2/1");
        EDGE.changes("the lowest", with(9, 8), x -> x.note(11), 1, "scale", "1/1 9/8 5/4 4/3 3/2 2/1");
        EDGE.changes("between", with(45, 32), x -> x.note(11), 3, "scale", "1/1 5/4 4/3 45/32 3/2 2/1");
        EDGE.changes("the highest", with(15, 8), x -> x.note(11), 4, "scale", "1/1 5/4 4/3 3/2 15/8 2/1");
        EDGE.changes("just above ONE", withRow(-1, -7, 4, 1, 0, 0), x -> x.note(11), 1, "scale",
            "1/1 4375/4374 5/4 4/3 3/2 2/1");
        EDGE.changes("just below the period", withRow(2, 7, -4, -1, 0, 0), x -> x.note(11), 4, "scale",
            "1/1 5/4 4/3 3/2 8748/4375 2/1");
    }

    // Promise 21: "FOLDED into the PERIOD".
    private static void noteFolded() {
        EDGE.changes("7/1", with(7, 1), x -> x.note(11), 4, "scale", "1/1 5/4 4/3 3/2 7/4 2/1");
        EDGE.changes("1/7", with(1, 7), x -> x.note(11), 1, "scale", "1/1 8/7 5/4 4/3 3/2 2/1");
        EDGE.changes("4374/4375", withRow(1, 7, -4, -1, 0, 0), x -> x.note(11), 4, "scale",
            "1/1 5/4 4/3 3/2 8748/4375 2/1");
        EDGE.changes("2 in the period 3/2", x -> {
            Benches.plain(x);
            x.begin(FIFTH);
        }, x -> x.note(OCTAVE), 1, "scale", "1/1 4/3 3/2");
    }

    private static String powersText(int period, String second) {
        StringBuilder text = new StringBuilder("1/1 2/1");
        text.append(second);
        for (int power = 2; power <= period; power++) {
            text.append(' ').append(1 << power).append("/1");
        }
        return text.toString();
    }

    // "NOTES, from 1 to 24"; "6 one too many".
    private static void noteUpTo24() {
        EDGE.changes("the 24th", x -> Benches.powersOfTwo(x, 23), x -> x.note(TWELFTH), 2, "scale",
            powersText(23, " 3/1"));
        EDGE.refuses("the 25th", x -> Benches.powersOfTwo(x, 24), x -> x.note(TWELFTH), 6);
        EDGE.refuses("the 25th, lowest", x -> Benches.powersOfTwo(x, 24), x -> x.note(FIFTH), 6);
        EDGE.refuses("the 25th, highest", x -> {
            Benches.powersOfTwo(x, 24);
            x.set(11, 22, 1, 0, 0, 0, 0);
        }, x -> x.note(11), 6);
        EDGE.refuses("the 25th behind lay", x -> {
            Benches.furnished(x);
            x.lay(TWELFTH, OCTAVE, 24);
        }, x -> x.note(THIRD), 6);
        EDGE.tells("24 notes", x -> Benches.powersOfTwo(x, 24), x -> x.scale(0), 24);
    }

    // "8 it is there already".
    private static void noteThereAlready() {
        EDGE.refuses("a note again", Benches::furnished, x -> x.note(FIFTH), 8);
        EDGE.refuses("a note again, folded down", Benches::furnished, x -> x.note(TWELFTH), 8);
        EDGE.refuses("a note again, folded up", with(3, 4), x -> x.note(11), 8);
        EDGE.refuses("ONE", Benches::furnished, x -> x.note(UNISON), 8);
        EDGE.refuses("the period is ONE", Benches::furnished, x -> x.note(OCTAVE), 8);
        EDGE.refuses("the period's opposite is ONE", Benches::furnished, x -> x.note(FALLING), 8);
        EDGE.refuses("the lowest again", Benches::furnished, x -> x.note(THIRD), 8);
        EDGE.refuses("ONE in a new scale", x -> {
            Benches.plain(x);
            x.begin(OCTAVE);
        }, x -> x.note(UNISON), 8);
    }

    // "4 what comes would be FAR": folded, 24 and -24 come, 25 and -25 do not.
    private static void noteFar() {
        EDGE.changes("2^-24", withRow(0, 1, 10, 0, 0, 0), x -> x.note(11), 4, "scale",
            "1/1 5/4 4/3 3/2 " + State.ratio(-24, 1, 10, 0, 0, 0) + " 2/1");
        EDGE.refuses("2^-25", withRow(0, 0, 11, 0, 0, 0), x -> x.note(11), 4);
        EDGE.changes("2^24", withRow(0, 0, -10, 0, 0, 0), x -> x.note(11), 4, "scale",
            "1/1 5/4 4/3 3/2 " + State.ratio(24, 0, -10, 0, 0, 0) + " 2/1");
        EDGE.refuses("2^25", withRow(0, -1, -10, 0, 0, 0), x -> x.note(11), 4);
        EDGE.refuses("3^24", Benches::furnished, x -> x.note(HIGH), 4);
        // In the period 9/8 eight of them are 2^-24.
        Edge.Recipe tone = x -> {
            Benches.plain(x);
            x.ratio(11, 9, 8);
            x.begin(11);
            x.ratio(12, 13, 5);
            x.ratio(13, 3, 7);
            x.ratio(14, 5, 13);
        };
        EDGE.changes("2^24 in 9/8", tone, x -> x.note(12), 1, "scale",
            "1/1 " + State.ratio(24, -16, -1, 0, 0, 1) + " 9/8");
        EDGE.refuses("2^27 in 9/8", tone, x -> x.note(TWELFTH), 4);
        EDGE.changes("2^-24 in 9/8", tone, x -> x.note(13), 1, "scale",
            "1/1 " + State.ratio(-24, 17, 0, -1, 0, 0) + " 9/8");
        EDGE.refuses("2^-27 in 9/8", tone, x -> x.note(14), 4);
        noteFarByOnePrimeOfThePeriod();
    }

    // In the period 3/2, where 3 stays near and 2, which was there, does not.
    private static void noteFarByOnePrimeOfThePeriod() {
        Edge.Recipe fifth = x -> {
            Benches.plain(x);
            x.begin(FIFTH);
            x.set(11, 10, -1, 0, 0, 0, 0);
            x.set(12, 10, 0, 0, 1, 0, -1);
            x.set(13, -10, 0, 1, 0, 0, 0);
            x.set(14, -10, 1, 0, 0, 0, 0);
        };
        EDGE.changes("2^24 in 3/2", fifth, x -> x.note(11), 1, "scale",
            "1/1 " + State.ratio(24, -15, 0, 0, 0, 0) + " 3/2");
        EDGE.refuses("2^25 in 3/2", fifth, x -> x.note(12), 4);
        EDGE.changes("2^-24 in 3/2", fifth, x -> x.note(13), 1, "scale",
            "1/1 " + State.ratio(-24, 14, 1, 0, 0, 0) + " 3/2");
        EDGE.refuses("2^-25 in 3/2", fifth, x -> x.note(14), 4);
    }

    // Promise 21: "(1, 2, 7, 4, 8, 6: asked in this order)".
    private static void noteOrder() {
        for (int shelf : Edge.NO_SHELVES) {
            EDGE.refuses("note, 1", Benches::furnished, x -> x.note(shelf), 1);
            EDGE.refuses("note, 1 ahead of 7", Benches::plain, x -> x.note(shelf), 1);
            EDGE.refuses("note, 1 ahead of 6", x -> Benches.powersOfTwo(x, 24), x -> x.note(shelf), 1);
        }
        EDGE.refuses("note, 2", Benches::furnished, x -> x.note(BARE), 2);
        EDGE.refuses("note, 2 ahead of 7", Benches::plain, x -> x.note(BARE), 2);
        EDGE.refuses("note, 2 ahead of 6", x -> Benches.powersOfTwo(x, 24), x -> x.note(BARE), 2);
        EDGE.refuses("note, 7", Benches::plain, x -> x.note(FIFTH), 7);
        EDGE.refuses("note, 7 of ONE", Benches::plain, x -> x.note(UNISON), 7);
        EDGE.refuses("note, 7 of the highest", Benches::plain, x -> x.note(HIGH), 7);
        EDGE.refuses("note, 4 ahead of 6", x -> {
            Benches.powersOfTwo(x, 24);
            x.set(11, 0, 0, 0, 0, 0, 24);
        }, x -> x.note(11), 4);
        EDGE.refuses("note, 8 ahead of 6", x -> Benches.powersOfTwo(x, 24), x -> x.note(OCTAVE), 8);
        EDGE.refuses("note, 8 of ONE ahead of 6", x -> Benches.powersOfTwo(x, 24), x -> x.note(UNISON), 8);
        EDGE.refuses("note, 8 of one below ahead of 6", x -> Benches.powersOfTwo(x, 24), x -> x.note(FALLING), 8);
    }

    // Promise 22: "so many NOTES (1 .. 24, else 3)".
    private static void layFrom1To24() {
        EDGE.does("lay 1", Benches::furnished, x -> x.lay(TWELFTH, OCTAVE, 1), "scale", "1/1 3/1");
        EDGE.does("lay 2", Benches::furnished, x -> x.lay(TWELFTH, OCTAVE, 2), "scale", "1/1 2/1 3/1");
        EDGE.does("lay 3", Benches::furnished, x -> x.lay(TWELFTH, OCTAVE, 3), "scale", "1/1 4/3 2/1 3/1");
        int[][] powers = new int[24][];
        for (int m = 0; m < 24; m++) {
            int threes = 0;
            while (Math.pow(2, m) > Math.pow(3, threes + 1)) {
                threes++;
            }
            powers[m] = row(m, -threes);
        }
        Arrays.sort(powers, (a, b) -> Double.compare(a[0] * Math.log(2) + a[1] * Math.log(3),
            b[0] * Math.log(2) + b[1] * Math.log(3)));
        String text = Benches.scaleText(row(0, 1), Arrays.copyOfRange(powers, 1, 24));
        EDGE.does("lay 24", Benches::furnished, x -> x.lay(TWELFTH, OCTAVE, 24), "scale", text);
        for (int wrong : new int[] {0, -1, 25, 26, ENDS[0], ENDS[1]}) {
            EDGE.denies("lay " + wrong, Benches::furnished, x -> x.lay(TWELFTH, OCTAVE, wrong), 3);
        }
        EDGE.does("lay down", Benches::furnished, x -> x.lay(TWELFTH, FALLING, 3), "scale", "1/1 3/2 9/4 3/1");
    }

    // Promise 22: "5 of the PERIOD": what is laid may be ONE or below.
    private static void layPeriodGreaterThanOne() {
        EDGE.denies("the period ONE", Benches::furnished, x -> x.lay(UNISON, FIFTH, 2), 5);
        EDGE.denies("the period below ONE", Benches::furnished, x -> x.lay(FALLING, FIFTH, 2), 5);
        EDGE.denies("the period ONE, one note", Benches::furnished, x -> x.lay(UNISON, FIFTH, 1), 5);
        EDGE.does("ONE laid once", Benches::furnished, x -> x.lay(OCTAVE, UNISON, 1), "scale", "1/1 2/1");
        EDGE.does("below ONE", with(2, 3), x -> x.lay(OCTAVE, 11, 2), "scale", "1/1 4/3 2/1");
        EDGE.does("the highest laid once", Benches::furnished, x -> x.lay(OCTAVE, HIGH, 1), "scale", "1/1 2/1");
    }

    // Promise 22: "4 of any that comes": the last.
    private static void layFarAtLast() {
        EDGE.accepts("15 fifths: 2^-23", Benches::furnished, x -> x.lay(OCTAVE, FIFTH, 16) ? 1 : 0);
        EDGE.denies("16 fifths: 2^-25", Benches::furnished, x -> x.lay(OCTAVE, FIFTH, 17), 4);
        EDGE.denies("more fifths", Benches::furnished, x -> x.lay(OCTAVE, FIFTH, 24), 4);
        EDGE.accepts("15 fourths: 2^24", Benches::furnished, x -> x.lay(OCTAVE, Benches.FOURTH, 16) ? 1 : 0);
        EDGE.denies("16 fourths: 2^26", Benches::furnished, x -> x.lay(OCTAVE, Benches.FOURTH, 17), 4);
        EDGE.denies("the first", Benches::furnished, x -> x.lay(OCTAVE, HIGH, 2), 4);
        // Of other primes nothing is folded away: 27/25 to the power 8 has 3^24, to the power 9 has 3^27.
        EDGE.accepts("3^24", with(27, 25), x -> x.lay(OCTAVE, 11, 9) ? 1 : 0);
        EDGE.denies("3^27", with(27, 25), x -> x.lay(OCTAVE, 11, 10), 4);
        EDGE.accepts("3^-24", with(25, 27), x -> x.lay(OCTAVE, 11, 9) ? 1 : 0);
        EDGE.denies("3^-27", with(25, 27), x -> x.lay(OCTAVE, 11, 10), 4);
        // The power ahead of folding may be far: 18 to the power 23 is 2^23 3^46, folded into 3 it is 2^23 3^-14.
        EDGE.accepts("far ahead of folding", with(18, 1), x -> x.lay(TWELFTH, 11, 24) ? 1 : 0);
    }

    // Promise 22: "4 of any that comes": one between, where those behind it are not. (3/8)^16 alone is, in 2^23.
    private static void layFarBetween() {
        Edge.Recipe recipe = x -> {
            Benches.furnished(x);
            x.set(11, 23, 0, 0, 0, 0, 0);
            x.ratio(12, 3, 8);
            x.set(13, -9, 3, 0, 0, 0, 0);
        };
        EDGE.accepts("up to power 15", recipe, x -> x.lay(11, 12, 16) ? 1 : 0);
        EDGE.denies("up to power 16", recipe, x -> x.lay(11, 12, 17), 4);
        EDGE.denies("up to power 17", recipe, x -> x.lay(11, 12, 18), 4);
        EDGE.denies("up to power 23", recipe, x -> x.lay(11, 12, 24), 4);
        EDGE.accepts("by the third power, past it", recipe, x -> x.lay(11, 13, 8) ? 1 : 0);
    }

    // Promise 22: "8: two are the same".
    private static void layTwoTheSame() {
        EDGE.denies("the period in itself", Benches::furnished, x -> x.lay(FIFTH, FIFTH, 2), 8);
        EDGE.denies("the period in itself, 24", Benches::furnished, x -> x.lay(FIFTH, FIFTH, 24), 8);
        EDGE.does("the period in itself, once", Benches::furnished, x -> x.lay(FIFTH, FIFTH, 1), "scale", "1/1 3/2");
        EDGE.denies("ONE twice", Benches::furnished, x -> x.lay(OCTAVE, UNISON, 2), 8);
        EDGE.denies("1/2 in 2", Benches::furnished, x -> x.lay(OCTAVE, FALLING, 2), 8);
        EDGE.does("2 in 4, twice", with(4, 1), x -> x.lay(11, OCTAVE, 2), "scale", "1/1 2/1 4/1");
        EDGE.denies("2 in 4, thrice", with(4, 1), x -> x.lay(11, OCTAVE, 3), 8);
        EDGE.does("2 in 2^23, 23 of them", withRow(23, 0, 0, 0, 0, 0), x -> x.lay(11, OCTAVE, 23), "scale",
            powersText(23, ""));
        EDGE.denies("2 in 2^23, 24 of them", withRow(23, 0, 0, 0, 0, 0), x -> x.lay(11, OCTAVE, 24), 8);
        EDGE.does("2 in 2^24, 24 of them", withRow(24, 0, 0, 0, 0, 0), x -> x.lay(11, OCTAVE, 24), "scale",
            powersText(24, ""));
    }

    // Promise 22: "(1, 2, 3, 5 of the PERIOD, 4 ..., 8 ..., asked in this order; the SCALE that was stays with these)".
    private static void layOrder() {
        for (int shelf : Edge.NO_SHELVES) {
            EDGE.denies("lay, 1 of the period ahead of 2", Benches::furnished, x -> x.lay(shelf, BARE, 2), 1);
            EDGE.denies("lay, 1 of by ahead of 2", Benches::furnished, x -> x.lay(BARE, shelf, 2), 1);
            EDGE.denies("lay, 1 of the period ahead of 3", Benches::furnished, x -> x.lay(shelf, FIFTH, 25), 1);
            EDGE.denies("lay, 1 of by ahead of 3", Benches::furnished, x -> x.lay(OCTAVE, shelf, 0), 1);
            EDGE.denies("lay, 1 of by ahead of 5", Benches::furnished, x -> x.lay(UNISON, shelf, 2), 1);
        }
        EDGE.denies("lay, 2 of the period", Benches::furnished, x -> x.lay(BARE, FIFTH, 2), 2);
        EDGE.denies("lay, 2 of by", Benches::furnished, x -> x.lay(OCTAVE, BARE, 2), 2);
        EDGE.denies("lay, 2 of by, one note", Benches::furnished, x -> x.lay(OCTAVE, BARE, 1), 2);
        for (int wrong : new int[] {0, 25}) {
            EDGE.denies("lay, 2 of the period ahead of 3", Benches::furnished, x -> x.lay(BARE, FIFTH, wrong), 2);
            EDGE.denies("lay, 2 of by ahead of 3", Benches::furnished, x -> x.lay(OCTAVE, BARE, wrong), 2);
            EDGE.denies("lay, 3 ahead of 5", Benches::furnished, x -> x.lay(UNISON, FIFTH, wrong), 3);
            EDGE.denies("lay, 3 ahead of 5", Benches::furnished, x -> x.lay(FALLING, FIFTH, wrong), 3);
            EDGE.denies("lay, 3 ahead of 4", Benches::furnished, x -> x.lay(OCTAVE, HIGH, wrong), 3);
            EDGE.denies("lay, 3 ahead of 8", Benches::furnished, x -> x.lay(OCTAVE, UNISON, wrong), 3);
        }
        EDGE.denies("lay, 2 of by ahead of 5", Benches::furnished, x -> x.lay(UNISON, BARE, 2), 2);
        EDGE.denies("lay, 5 ahead of 4", Benches::furnished, x -> x.lay(FALLING, HIGH, 24), 5);
        EDGE.denies("lay, 5 ahead of 4", Benches::furnished, x -> x.lay(UNISON, HIGH, 24), 5);
        EDGE.denies("lay, 5 ahead of 8", Benches::furnished, x -> x.lay(UNISON, UNISON, 2), 5);
        EDGE.denies("lay, 5 ahead of 8", Benches::furnished, x -> x.lay(FALLING, FALLING, 2), 5);
    }

    private static void layWithoutAScaleBefore() {
        EDGE.does("lay", Benches::plain, x -> x.lay(OCTAVE, FIFTH, 3), "scale", "1/1 9/8 3/2 2/1");
        EDGE.denies("lay, 3", Benches::plain, x -> x.lay(OCTAVE, FIFTH, 0), 3);
        EDGE.denies("lay, 5", Benches::plain, x -> x.lay(UNISON, FIFTH, 2), 5);
        EDGE.denies("lay, 4", Benches::plain, x -> x.lay(OCTAVE, FIFTH, 17), 4);
        EDGE.denies("lay, 8", Benches::plain, x -> x.lay(OCTAVE, UNISON, 2), 8);
    }

    // Promise 22: "the SCALE that was stays with these": also where it was laid or turned itself, or has 24 notes.
    private static void theScaleThatWasStays() {
        Edge.Recipe laid = x -> {
            Benches.furnished(x);
            x.set(11, 23, 0, 0, 0, 0, 0);
            x.set(12, 0, 0, 0, 0, 0, 24);
            x.lay(OCTAVE, FIFTH, 7);
        };
        Edge.Recipe turned = x -> {
            laid.furnish(x);
            x.mode(3);
        };
        Edge.Recipe turnedTwice = x -> {
            turned.furnish(x);
            x.mode(1);
        };
        Edge.Recipe full = x -> {
            laid.furnish(x);
            x.lay(TWELFTH, OCTAVE, 24);
        };
        for (Edge.Recipe recipe : Arrays.asList(laid, turned, turnedTwice, full)) {
            EDGE.denies("lay, 4 at last", recipe, x -> x.lay(OCTAVE, FIFTH, 17), 4);
            EDGE.denies("lay, 4 at once", recipe, x -> x.lay(OCTAVE, HIGH, 24), 4);
            EDGE.denies("lay, 8 at last", recipe, x -> x.lay(11, OCTAVE, 24), 8);
            EDGE.denies("lay, 8 at once", recipe, x -> x.lay(TWELFTH, TWELFTH, 24), 8);
            EDGE.denies("lay, 5", recipe, x -> x.lay(FALLING, FIFTH, 2), 5);
            EDGE.denies("lay, 3", recipe, x -> x.lay(TWELFTH, FIFTH, 25), 3);
            EDGE.refuses("note, 8", recipe, x -> x.note(UNISON), 8);
            EDGE.refuses("note, 4", recipe, x -> x.note(12), 4);
        }
        Edge.Recipe steepBehindMode = x -> {
            Benches.scaled(x, row(4, 0), row(-1, 1), row(24, -14), row(3, 0));
            x.mode(2);
            x.mode(0);
        };
        EDGE.denies("mode, 4 behind mode", steepBehindMode, x -> x.mode(3), 4);
        EDGE.does("mode behind mode", steepBehindMode, x -> x.mode(2), "scale",
            Benches.scaleText(row(4, 0), row(-1, 1), row(24, -14), row(3, 0)));
    }

    // Promise 23: "NOTE i (0 .. n, else 3)".
    private static void takeFrom0ToN() {
        String[] want = {"1/1", "5/4", "4/3", "3/2", "2/1"};
        for (int i = 0; i < want.length; i++) {
            int note = i;
            EDGE.does("take " + i, Benches::furnished, x -> x.take(note, FREE), FREE_SHELF, want[i]);
            EDGE.does("take " + i + " to a full shelf", Benches::furnished, x -> x.take(note, HIGH), "shelf " + HIGH,
                want[i]);
        }
        for (int wrong : new int[] {-1, 5, 6, ENDS[0], ENDS[1]}) {
            EDGE.denies("take " + wrong, Benches::furnished, x -> x.take(wrong, FREE), 3);
        }
        Edge.Recipe alone = x -> {
            Benches.plain(x);
            x.begin(OCTAVE);
        };
        EDGE.does("take 1 of one note", alone, x -> x.take(1, FREE), FREE_SHELF, "2/1");
        EDGE.denies("take 2 of one note", alone, x -> x.take(2, FREE), 3);
        Edge.Recipe full = x -> Benches.powersOfTwo(x, 24);
        EDGE.does("take 23 of 24", full, x -> x.take(23, FREE), FREE_SHELF, "8388608/1");
        EDGE.does("take 24 of 24", full, x -> x.take(24, FREE), FREE_SHELF, "16777216/1");
        EDGE.denies("take 25 of 24", full, x -> x.take(25, FREE), 3);
        EDGE.does("a period that is nearly far", x -> Benches.scaled(x, row(24, 24), row(24, -15)), x -> x.take(2, FREE),
            FREE_SHELF, State.ratio(24, 24, 0, 0, 0, 0));
    }

    // Promise 23: "(1, 3, 7, 4: 7 ahead of 3)".
    private static void takeOrder() {
        for (int shelf : Edge.NO_SHELVES) {
            EDGE.denies("take, 1 ahead of 7", Benches::plain, x -> x.take(0, shelf), 1);
            EDGE.denies("take, 1 ahead of 3", Benches::furnished, x -> x.take(5, shelf), 1);
            EDGE.denies("take, 1 ahead of both", Benches::plain, x -> x.take(-1, shelf), 1);
        }
        EDGE.denies("take, 7", Benches::plain, x -> x.take(0, FREE), 7);
        EDGE.denies("take, 7 ahead of 3", Benches::plain, x -> x.take(-1, FREE), 7);
        EDGE.denies("take, 7 ahead of 3", Benches::plain, x -> x.take(25, OCTAVE), 7);
    }

    // Promise 24: "What 0: NOTES, 1: MOMENT, 2: MYTH, 3: PROPER, 4: STRICT; 3 for others".
    private static void scaleFrom0To4() {
        // Steps 5/4 16/15 9/8 4/3: four kinds; 4/3 is above 5/4 by 16/15 no more.
        int[] want = {4, 0, 0, 0, 0};
        for (int what = 0; what <= 4; what++) {
            int asked = what;
            EDGE.tells("scale(" + what + ")", Benches::furnished, x -> x.scale(asked), want[what]);
        }
        for (int wrong : new int[] {-1, 5, ENDS[0], ENDS[1]}) {
            EDGE.refuses("scale(" + wrong + ")", Benches::furnished, x -> x.scale(wrong), 3);
        }
        int[] one = {1, 1, 0, 1, 1};
        int[] full = {24, 1, 0, 1, 1};
        for (int what = 0; what <= 4; what++) {
            int asked = what;
            EDGE.tells("one note: scale(" + what + ")", x -> {
                Benches.plain(x);
                x.begin(OCTAVE);
            }, x -> x.scale(asked), one[what]);
            EDGE.tells("24 even notes: scale(" + what + ")", x -> Benches.powersOfTwo(x, 24), x -> x.scale(asked),
                full[what]);
        }
    }

    // Promise 24: "(7 ahead of it)".
    private static void scaleOrder() {
        for (int what : new int[] {0, 1, 2, 3, 4, 5, -1, ENDS[0], ENDS[1]}) {
            EDGE.refuses("scale(" + what + "), 7", Benches::plain, x -> x.scale(what), 7);
        }
    }

    // "a MOMENT, if KINDS of 1 are at most 2".
    private static void moment() {
        EDGE.tells("one kind", powers(2, 2, 2), x -> x.scale(1), 1);
        EDGE.tells("two kinds", powers(2, 2, 1), x -> x.scale(1), 1);
        EDGE.tells("three kinds", powers(3, 2, 1), x -> x.scale(1), 0);
        EDGE.tells("two kinds, three of 2", powers(2, 2, 1, 1), x -> x.scale(1), 1);
        EDGE.tells("the third kind is the last step", powers(2, 2, 1, 1, 3), x -> x.scale(1), 0);
    }

    // "a MYTH, if it has at least 2 NOTES, and for all k from 1 to n - 1 KINDS are 2".
    private static void myth() {
        EDGE.tells("two notes", powers(2, 1), x -> x.scale(2), 1);
        EDGE.tells("two even notes", powers(2, 2), x -> x.scale(2), 0);
        EDGE.tells("three notes", powers(2, 2, 1), x -> x.scale(2), 1);
        EDGE.tells("three even notes", powers(2, 2, 2), x -> x.scale(2), 0);
        EDGE.tells("three kinds of 1", powers(3, 2, 1), x -> x.scale(2), 0);
        EDGE.tells("one kind of 2", powers(2, 1, 2, 1), x -> x.scale(2), 0);
        EDGE.tells("three kinds of 2", powers(2, 2, 1, 1), x -> x.scale(2), 0);
        EDGE.tells("one kind of 3 alone", powers(2, 1, 1, 2, 1, 1), x -> x.scale(2), 0);
        EDGE.tells("seven notes", powers(2, 2, 2, 1, 2, 2, 1), x -> x.scale(2), 1);
        EDGE.tells("seven notes in another order", powers(2, 2, 2, 2, 2, 1, 1), x -> x.scale(2), 0);
    }

    /** What PROPER and STRICT are of the scale with these powers of 2 as its steps. */
    private static void dueProper(int proper, int strict, int... steps) {
        String told = Arrays.toString(steps);
        EDGE.tells(told + " PROPER", powers(steps), x -> x.scale(3), proper);
        EDGE.tells(told + " STRICT", powers(steps), x -> x.scale(4), strict);
    }

    // "PROPER, if ... no STEP of k is GREATER than any STEP of k + 1; STRICT, if each STEP of k is below each of k + 1".
    private static void properAndStrict() {
        dueProper(1, 1, 1, 1);
        dueProper(1, 1, 1, 23);
        // Of 1 and 2: below, the same, greater.
        dueProper(1, 1, 3, 2, 2);
        dueProper(1, 0, 2, 1, 1);
        dueProper(0, 0, 3, 1, 1);
        // Of 2 and 3 alone: below, the same, greater.
        dueProper(1, 1, 4, 4, 3, 3, 3);
        dueProper(1, 0, 2, 2, 1, 2, 1);
        dueProper(0, 0, 3, 3, 1, 3, 1);
        // Of 1 and 2 the same, of 2 and 3 below.
        dueProper(1, 0, 2, 1, 2, 1, 1);
        // Of 1 and 2 greater, of 2 and 3 below, the same.
        dueProper(0, 0, 3, 1, 3, 1, 1);
        dueProper(0, 0, 3, 1, 1, 2, 1);
        // The greater step stands at the end, so that the step of 2 that is less is ahead of it, or goes around.
        dueProper(0, 0, 1, 1, 3);
        dueProper(0, 0, 1, 3, 1);
        dueProper(1, 0, 1, 2, 1);
        dueProper(1, 0, 1, 1, 2);
    }

    // Promise 25: "KINDS of k (1 .. n, else 3)".
    private static void kindsFrom1ToN() {
        int[] want = {4, 4, 4, 1};
        for (int k = 1; k <= 4; k++) {
            int steps = k;
            EDGE.tells("kinds(" + k + ")", Benches::furnished, x -> x.kinds(steps), want[k - 1]);
        }
        for (int wrong : new int[] {0, -1, 5, ENDS[0], ENDS[1]}) {
            EDGE.refuses("kinds(" + wrong + ")", Benches::furnished, x -> x.kinds(wrong), 3);
        }
        Edge.Recipe alone = x -> {
            Benches.plain(x);
            x.begin(OCTAVE);
        };
        EDGE.tells("kinds(1) of one note", alone, x -> x.kinds(1), 1);
        EDGE.refuses("kinds(2) of one note", alone, x -> x.kinds(2), 3);
        Edge.Recipe full = x -> Benches.powersOfTwo(x, 24);
        EDGE.tells("kinds(24) of 24 notes", full, x -> x.kinds(24), 1);
        EDGE.refuses("kinds(25) of 24 notes", full, x -> x.kinds(25), 3);
        // The odd numbers from 3 to 99 without greater primes than 13.
        TuneBench bench = new TuneBench();
        Benches.plain(bench);
        bench.begin(OCTAVE);
        for (int n = 3; n <= 99; n += 2) {
            if (bench.ratio(11, n, 1)) {
                bench.note(11);
            }
        }
        EDGE.due("notes that are all unlike", bench.scale(0), 24);
        EDGE.due("24 kinds of 1", bench.kinds(1), 24);
        EDGE.due("the last of them", bench.step(1, 23, 11), 1);
        EDGE.due("one behind it", bench.step(1, 24, 11), -1);
        EDGE.due("its STATUS", bench.status(), 3);
    }

    // Promise 25: "(7 ahead of it)".
    private static void kindsOrder() {
        for (int k : new int[] {1, 0, -1, 25, ENDS[0], ENDS[1]}) {
            EDGE.refuses("kinds(" + k + "), 7", Benches::plain, x -> x.kinds(k), 7);
        }
    }

    // "A STEP of k, for i from 0 to n - 1 (k from 1 to n; of n all are the PERIOD)": also those that go around.
    private static void stepOfKFrom1ToN() {
        EDGE.changes("step(1, 3) goes around", Benches::furnished, x -> x.step(1, 3, FREE), 1, FREE_SHELF, "4/3");
        EDGE.changes("step(3, 3) goes around", Benches::furnished, x -> x.step(3, 3, FREE), 1, FREE_SHELF, "15/8");
        EDGE.changes("step(4, 0) is the period", Benches::furnished, x -> x.step(4, 0, FREE), 4, FREE_SHELF, "2/1");
        for (int wrong : new int[] {0, -1, 5, ENDS[0], ENDS[1]}) {
            EDGE.refuses("step(" + wrong + ", 0)", Benches::furnished, x -> x.step(wrong, 0, FREE), 3);
        }
        Edge.Recipe full = x -> Benches.powersOfTwo(x, 24);
        EDGE.changes("step(24, 0) of 24 notes", full, x -> x.step(24, 0, FREE), 24, FREE_SHELF, "16777216/1");
        EDGE.refuses("step(25, 0) of 24 notes", full, x -> x.step(25, 0, FREE), 3);
    }

    // Promise 26: "The j-th STEP of k by size (the least 0), each kind once".
    private static void stepByJ() {
        String[] ones = {"16/15", "9/8", "5/4", "4/3"};
        for (int j = 0; j < 4; j++) {
            int place = j;
            EDGE.changes("step(1, " + j + ")", Benches::furnished, x -> x.step(1, place, FREE), 1, FREE_SHELF, ones[j]);
        }
        String[] twos = {"6/5", "4/3", "3/2", "5/3"};
        for (int j = 0; j < 4; j++) {
            int place = j;
            EDGE.changes("step(2, " + j + ")", Benches::furnished, x -> x.step(2, place, FREE), 1, FREE_SHELF, twos[j]);
        }
        for (int k = 1; k <= 4; k++) {
            int steps = k;
            int[] kinds = {4, 4, 4, 1};
            for (int wrong : new int[] {-1, kinds[k - 1], kinds[k - 1] + 1, ENDS[0], ENDS[1]}) {
                EDGE.refuses("step(" + k + ", " + wrong + ")", Benches::furnished, x -> x.step(steps, wrong, FREE), 3);
            }
        }
        EDGE.changes("to a full shelf", Benches::furnished, x -> x.step(1, 0, HIGH), 1, "shelf " + HIGH, "16/15");
    }

    // Promise 26: "how often it is among the n STEPS of k": from once to n times.
    private static void stepHowOften() {
        Edge.Recipe uneven = powers(2, 2, 1, 2, 2, 2, 1);
        EDGE.changes("the less of 1", uneven, x -> x.step(1, 0, FREE), 2, FREE_SHELF, "2/1");
        EDGE.changes("the greater of 1", uneven, x -> x.step(1, 1, FREE), 5, FREE_SHELF, "4/1");
        EDGE.changes("the less of 3", uneven, x -> x.step(3, 0, FREE), 6, FREE_SHELF, "32/1");
        EDGE.changes("the greater of 3", uneven, x -> x.step(3, 1, FREE), 1, FREE_SHELF, "64/1");
        EDGE.changes("the period", uneven, x -> x.step(7, 0, FREE), 7, FREE_SHELF, "4096/1");
        Edge.Recipe one = x -> {
            Benches.plain(x);
            x.begin(OCTAVE);
        };
        EDGE.changes("of one note", one, x -> x.step(1, 0, FREE), 1, FREE_SHELF, "2/1");
        Edge.Recipe full = x -> Benches.powersOfTwo(x, 24);
        EDGE.changes("of 24 even notes", full, x -> x.step(1, 0, FREE), 24, FREE_SHELF, "2/1");
    }

    /** Period 2^12, and a note with this power of 2: the step from it to the period has 12 less it. */
    private static Edge.Recipe steep(int two, int three) {
        return x -> Benches.scaled(x, row(12, 0), row(two, three));
    }

    /** Period 3^10/2, and a note with this power of 2 by 3^10. */
    private static Edge.Recipe falling(int two) {
        return x -> Benches.scaled(x, row(-1, 10), row(two, -10));
    }

    // Promise 26, 4: a STEP with 24 or -24 comes, with 25 or -25 it does not; KINDS count it all the same.
    private static void stepFar() {
        EDGE.changes("2^24", steep(-12, 8), x -> x.step(1, 1, FREE), 1, FREE_SHELF, State.ratio(24, -8, 0, 0, 0, 0));
        EDGE.refuses("2^25", steep(-13, 9), x -> x.step(1, 1, FREE), 4);
        EDGE.refuses("2^25 to a full shelf", steep(-13, 9), x -> x.step(1, 1, OCTAVE), 4);
        EDGE.changes("the other one", steep(-13, 9), x -> x.step(1, 0, FREE), 1, FREE_SHELF,
            State.ratio(-13, 9, 0, 0, 0, 0));
        EDGE.tells("kinds of both", steep(-13, 9), x -> x.kinds(1), 2);
        EDGE.changes("2^-24", falling(23), x -> x.step(1, 1, FREE), 1, FREE_SHELF, State.ratio(-24, 20, 0, 0, 0, 0));
        EDGE.refuses("2^-25", falling(24), x -> x.step(1, 0, FREE), 4);
        EDGE.changes("the other one", falling(24), x -> x.step(1, 1, FREE), 1, FREE_SHELF,
            State.ratio(24, -10, 0, 0, 0, 0));
    }

    // Promise 26: "(1, 7, 3, 4, asked in this order)".
    private static void stepOrder() {
        for (int shelf : Edge.NO_SHELVES) {
            EDGE.refuses("step, 1 ahead of 7", Benches::plain, x -> x.step(1, 0, shelf), 1);
            EDGE.refuses("step, 1 ahead of 3 of k", Benches::furnished, x -> x.step(0, 0, shelf), 1);
            EDGE.refuses("step, 1 ahead of 3 of j", Benches::furnished, x -> x.step(1, -1, shelf), 1);
            EDGE.refuses("step, 1 ahead of 4", steep(-13, 9), x -> x.step(1, 1, shelf), 1);
        }
        EDGE.refuses("step, 7", Benches::plain, x -> x.step(1, 0, FREE), 7);
        EDGE.refuses("step, 7 ahead of 3 of k", Benches::plain, x -> x.step(0, 0, FREE), 7);
        EDGE.refuses("step, 7 ahead of 3 of j", Benches::plain, x -> x.step(1, -1, FREE), 7);
        EDGE.refuses("step, 3 of k and of j", Benches::furnished, x -> x.step(0, -1, FREE), 3);
        EDGE.refuses("step, 3 where others are far", steep(-13, 9), x -> x.step(1, 2, FREE), 3);
    }

    // Promise 27: "from NOTE i (0 .. n - 1, else 3) on": the notes ahead of it go around the PERIOD.
    private static void modeFrom0ToNLess1() {
        EDGE.does("mode(0)", Benches::furnished, x -> x.mode(0), "scale", Benches.FOUR_NOTES);
        EDGE.does("mode(1)", Benches::furnished, x -> x.mode(1), "scale", "1/1 16/15 6/5 8/5 2/1");
        EDGE.does("mode(2)", Benches::furnished, x -> x.mode(2), "scale", "1/1 9/8 3/2 15/8 2/1");
        EDGE.does("mode(3)", Benches::furnished, x -> x.mode(3), "scale", "1/1 4/3 5/3 16/9 2/1");
        for (int wrong : new int[] {4, 5, -1, ENDS[0], ENDS[1]}) {
            EDGE.denies("mode(" + wrong + ")", Benches::furnished, x -> x.mode(wrong), 3);
        }
        Edge.Recipe alone = x -> {
            Benches.plain(x);
            x.begin(OCTAVE);
        };
        EDGE.does("mode(0) of one note", alone, x -> x.mode(0), "scale", "1/1 2/1");
        EDGE.denies("mode(1) of one note", alone, x -> x.mode(1), 3);
        Edge.Recipe full = x -> Benches.powersOfTwo(x, 24);
        EDGE.does("mode(23) of 24 even notes", full, x -> x.mode(23), "scale", powersText(24, ""));
        EDGE.denies("mode(24) of 24 notes", full, x -> x.mode(24), 3);
    }

    // Promise 27, 4: a NOTE with 24 or -24 comes, with 25 or -25 it does not.
    private static void modeFar() {
        EDGE.does("2^24", steep(-12, 8), x -> x.mode(1), "scale", Benches.scaleText(row(12, 0), row(24, -8)));
        EDGE.denies("2^25", steep(-13, 9), x -> x.mode(1), 4);
        EDGE.does("mode(0) is never far", steep(-13, 9), x -> x.mode(0), "scale",
            Benches.scaleText(row(12, 0), row(-13, 9)));
        EDGE.does("2^-24", falling(23), x -> x.mode(1), "scale", Benches.scaleText(row(-1, 10), row(-24, 20)));
        EDGE.denies("2^-25", falling(24), x -> x.mode(1), 4);
    }

    // Promise 27, 4: of any NOTE of the MODE, the first, one between, the last.
    private static void modeFarAnywhere() {
        int[] low = row(-1, 1);
        int[] odd = row(24, -14);
        int[] high = row(3, 0);
        int[] period = row(4, 0);
        Edge.Recipe first = x -> Benches.scaled(x, period, low, odd, high);
        EDGE.denies("the first", first, x -> x.mode(1), 4);
        EDGE.does("none", first, x -> x.mode(2), "scale",
            Benches.scaleText(period, row(-21, 14), row(-20, 14), row(-21, 15)));
        EDGE.denies("the last", first, x -> x.mode(3), 4);
        Edge.Recipe between = x -> Benches.scaled(x, period, low, row(1, 0), odd, high);
        EDGE.denies("one between", between, x -> x.mode(1), 4);
        EDGE.does("none, from the one behind", between, x -> x.mode(2), "scale",
            Benches.scaleText(period, row(23, -14), row(2, 0), row(3, 0), row(2, 1)));
    }

    // Promise 27: "(7, 3, 4, asked in this order)".
    private static void modeOrder() {
        for (int i : new int[] {0, -1, 1, 24, ENDS[0], ENDS[1]}) {
            EDGE.denies("mode(" + i + "), 7", Benches::plain, x -> x.mode(i), 7);
        }
        EDGE.denies("mode, 3 where others are far", steep(-13, 9), x -> x.mode(2), 3);
        EDGE.denies("mode, 3 where others are far", steep(-13, 9), x -> x.mode(-1), 3);
    }

    // Promise 28, of DIVISIONS 1 to 99.
    private static void followsFrom1To99() {
        Edge.Recipe alone = x -> {
            Benches.plain(x);
            x.begin(OCTAVE);
        };
        EDGE.tells("one note in 1", alone, x -> x.follows(1), 1);
        EDGE.tells("one note in 2", alone, x -> x.follows(2), 0);
        EDGE.tells("one note in 99", alone, x -> x.follows(99), 0);
        for (int wrong : new int[] {0, -1, 100, ENDS[0], ENDS[1]}) {
            EDGE.refuses("follows(" + wrong + ")", alone, x -> x.follows(wrong), 3);
            EDGE.refuses("follows(" + wrong + ")", Benches::furnished, x -> x.follows(wrong), 3);
        }
        Edge.Recipe ofOneStep = x -> {
            Benches.plain(x);
            x.ratio(11, 126, 125);
            x.begin(11);
        };
        EDGE.tells("126/125, of one step of 99", ofOneStep, x -> x.follows(99), 1);
        EDGE.tells("126/125, of none of 12", ofOneStep, x -> x.follows(12), 0);
        EDGE.tells("24 notes in 1", x -> Benches.powersOfTwo(x, 24), x -> x.follows(1), 1);
        EDGE.tells("24 notes in 2", x -> Benches.powersOfTwo(x, 24), x -> x.follows(2), 0);
    }

    // "It FOLLOWS a MAP, if for all i from 0 to n the STEPS of NOTE i are i": each note, and the PERIOD.
    private static void followsEachNote() {
        EDGE.tells("5/4 and 3/2 in 3", notes(2, 5, 4, 3, 2), x -> x.follows(3), 1);
        EDGE.tells("7/6 has 0", notes(2, 7, 6, 3, 2), x -> x.follows(3), 0);
        EDGE.tells("11/8 has 1", notes(2, 5, 4, 11, 8), x -> x.follows(3), 0);
        EDGE.tells("the period 3 has 5", notes(3, 5, 4, 3, 2), x -> x.follows(3), 0);
        EDGE.tells("in 4", notes(2, 5, 4, 3, 2), x -> x.follows(4), 0);
    }

    /** A scale of ONE and two ratios in the period. */
    private static Edge.Recipe notes(int period, int n, int d, int m, int e) {
        return x -> {
            Benches.plain(x);
            x.ratio(11, period, 1);
            x.begin(11);
            x.ratio(11, n, d);
            x.note(11);
            x.ratio(11, m, e);
            x.note(11);
        };
    }

    // Promise 28: "(7, 3, asked in this order)".
    private static void followsOrder() {
        for (int division : new int[] {1, 99, 0, 100, -1, ENDS[0], ENDS[1]}) {
            EDGE.refuses("follows(" + division + "), 7", Benches::plain, x -> x.follows(division), 7);
        }
    }
}
