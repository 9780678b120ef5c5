/** Counts the answers that are not as due; a test ends with finish(). */
final class Check {
    private int wrong;
    private int asked;

    void due(String call, long got, long want) {
        asked++;
        if (got != want) {
            wrong++;
            if (wrong <= 40) {
                System.out.println(call + " answered " + got + ", due is " + want);
            }
        }
    }

    void due(String call, boolean got, boolean want) {
        due(call, got ? 1 : 0, want ? 1 : 0);
    }

    void due(String call, String got, String want) {
        asked++;
        if (!got.equals(want)) {
            wrong++;
            System.out.println(call + " answered " + got + ", due is " + want);
        }
    }

    /** An answer, and the STATUS behind it. */
    void due(String call, long got, long want, TuneBench bench, int status) {
        due(call, got, want);
        due("status() behind " + call, bench.status(), status);
    }

    void due(String call, boolean got, boolean want, TuneBench bench, int status) {
        due(call, got, want);
        due("status() behind " + call, bench.status(), status);
    }

    /** What show() brings to OUT, read byte by byte. */
    static String shown(TuneBench bench, int shelf) {
        int length = bench.show(shelf);
        StringBuilder text = new StringBuilder();
        for (int k = 0; k < length; k++) {
            text.append((char) bench.out(k));
        }
        return text.toString();
    }

    boolean isFine() {
        return wrong == 0;
    }

    void finish() {
        System.out.println(wrong == 0 ? asked + " answers are as due" : wrong + " of " + asked + " answers are not as due");
        if (wrong != 0 || asked == 0) {
            System.exit(1);
        }
    }
}
