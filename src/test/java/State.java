import java.util.LinkedHashMap;
import java.util.Map;

/**
 * All that calls can tell of an object, part by part: "OUT", "shelf 0" to "shelf 15", "scale", "commas". Reading uses the
 * object up: its shelf 15 and its commas are gone behind it.
 */
final class State {
    static final String EMPTY = "nothing";
    private static final int PROBE = 15;
    private static final int[][] PROBES = {{81, 80}, {128, 125}, {3, 2}, {5, 4}, {7, 4}, {11, 8}, {13, 8}, {2, 1}};

    private State() {
    }

    static Map<String, String> of(TuneBench x) {
        Map<String, String> parts = new LinkedHashMap<>();
        parts.put("OUT", outOf(x));
        for (int shelf = 0; shelf < 16; shelf++) {
            parts.put("shelf " + shelf, shelfOf(x, shelf));
        }
        parts.put("scale", scaleOf(x));
        parts.put("commas", commasOf(x));
        return parts;
    }

    /** An interval's text, as the parts tell it: the ratio. */
    static String ratio(int... exponents) {
        return Model.product(exponents, 1) + "/" + Model.product(exponents, -1);
    }

    private static String outOf(TuneBench x) {
        StringBuilder text = new StringBuilder();
        int sign = x.out(0);
        for (int k = 1; sign != TuneBench.NONE; k++) {
            text.append((char) sign);
            sign = x.out(k);
        }
        return text.toString();
    }

    private static String shelfOf(TuneBench x, int shelf) {
        int[] exponents = new int[6];
        for (int k = 0; k < 6; k++) {
            exponents[k] = x.exponent(shelf, k);
            if (exponents[k] == TuneBench.NONE && x.status() != 0) {
                return EMPTY;
            }
        }
        return ratio(exponents);
    }

    /** The notes, and the period behind them. */
    private static String scaleOf(TuneBench x) {
        int notes = x.scale(0);
        if (notes == TuneBench.NONE) {
            return EMPTY;
        }
        StringBuilder text = new StringBuilder();
        for (int i = 0; i <= notes; i++) {
            x.take(i, PROBE);
            text.append(i == 0 ? "" : " ").append(shelfOf(x, PROBE));
        }
        return text.toString();
    }

    private static String commasOf(TuneBench x) {
        StringBuilder text = new StringBuilder();
        text.append("rank ").append(x.rank()).append(", twist ").append(x.twist()).append(", vanishing");
        for (int[] probe : PROBES) {
            x.ratio(PROBE, probe[0], probe[1]);
            text.append(' ').append(x.vanishes(PROBE));
        }
        text.append(", supported by ").append(x.supports(1)).append(", of ").append(x.clear());
        return text.toString();
    }
}
