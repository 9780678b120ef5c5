/** Furnished benches for the tests of edges, and the shelves on them. */
final class Benches {
    static final int OCTAVE = 0;
    static final int FIFTH = 1;
    static final int UNISON = 2;
    static final int FALLING = 3;
    static final int SYNTONIC = 4;
    static final int DIESIS = 5;
    static final int HIGH = 6;
    static final int THIRD = 7;
    static final int FOURTH = 8;
    static final int BARE = 9;
    static final int FREE = 10;
    static final int TWELFTH = 15;

    static final String FOUR_NOTES = "1/1 5/4 4/3 3/2 2/1";

    private Benches() {
    }

    /** Shelves of all sorts (9 to 14 are empty), and OUT; no commas, no scale. */
    static void plain(TuneBench x) {
        x.ratio(OCTAVE, 2, 1);
        x.ratio(FIFTH, 3, 2);
        x.ratio(UNISON, 1, 1);
        x.ratio(FALLING, 1, 2);
        x.ratio(SYNTONIC, 81, 80);
        x.ratio(DIESIS, 128, 125);
        x.set(HIGH, 0, 24, 0, 0, 0, 0);
        x.ratio(THIRD, 5, 4);
        x.ratio(FOURTH, 4, 3);
        x.ratio(TWELFTH, 3, 1);
        x.show(FIFTH);
    }

    /** The plain bench with two commas, and a scale of four notes. */
    static void furnished(TuneBench x) {
        plain(x);
        x.comma(SYNTONIC);
        x.comma(DIESIS);
        x.begin(OCTAVE);
        x.note(FIFTH);
        x.note(THIRD);
        x.note(FOURTH);
    }

    /** The furnished bench with five commas. */
    static void fullOfCommas(TuneBench x) {
        furnished(x);
        x.comma(FIFTH);
        x.comma(SYNTONIC);
        x.comma(DIESIS);
    }

    /** The furnished bench with the scale of the powers of 2 up to this one, which is the period. */
    static void powersOfTwo(TuneBench x, int period) {
        furnished(x);
        x.set(FREE, period, 0, 0, 0, 0, 0);
        x.begin(FREE);
        for (int power = 1; power < period; power++) {
            x.set(FREE, power, 0, 0, 0, 0, 0);
            x.note(FREE);
        }
        x.drop(FREE);
    }

    /** The furnished bench with a scale: the period and the notes by their exponents of 2 and 3. */
    static void scaled(TuneBench x, int[] period, int[]... notes) {
        furnished(x);
        x.set(FREE, period[0], period[1], 0, 0, 0, 0);
        x.begin(FREE);
        for (int[] note : notes) {
            x.set(FREE, note[0], note[1], 0, 0, 0, 0);
            x.note(FREE);
        }
        x.drop(FREE);
    }

    /** The text of scaled(), the notes given in their order. */
    static String scaleText(int[] period, int[]... notes) {
        StringBuilder text = new StringBuilder("1/1");
        for (int[] note : notes) {
            text.append(' ').append(State.ratio(note[0], note[1], 0, 0, 0, 0));
        }
        return text.append(' ').append(State.ratio(period[0], period[1], 0, 0, 0, 0)).toString();
    }
}
