import java.util.Map;

/**
 * Asks one call at an edge: on a new object that a recipe furnishes, its answer, its STATUS, and, part by part (see
 * State), all that it must leave as it was. A call that changes nothing is asked twice.
 */
final class Edge {
    /** Numbers that are no shelf. */
    static final int[] NO_SHELVES = {-1, 16, Integer.MIN_VALUE, Integer.MAX_VALUE};

    interface Recipe {
        void furnish(TuneBench x);
    }

    /** A call that answers a number. */
    interface Call {
        long on(TuneBench x);
    }

    /** A call that answers true or false. */
    interface Deed {
        boolean on(TuneBench x);
    }

    private final Check check = new Check();

    /** It answers this, STATUS is 0, and nothing is changed. */
    void tells(String told, Recipe recipe, Call call, long want) {
        ask(told, recipe, call, want, 0, null, null);
    }

    /** It answers this, STATUS is 0, and one part alone is changed, to this text. */
    void changes(String told, Recipe recipe, Call call, long want, String part, String text) {
        ask(told, recipe, call, want, 0, part, text);
    }

    /** It answers NONE, with this STATUS, and nothing is changed. */
    void refuses(String told, Recipe recipe, Call call, int status) {
        ask(told, recipe, call, TuneBench.NONE, status, null, null);
    }

    /** It answers true, STATUS is 0, and one part alone is changed, to this text. */
    void does(String told, Recipe recipe, Deed deed, String part, String text) {
        ask(told, recipe, x -> deed.on(x) ? 1 : 0, 1, 0, part, text);
    }

    /** It answers false, with this STATUS, and nothing is changed. */
    void denies(String told, Recipe recipe, Deed deed, int status) {
        ask(told, recipe, x -> deed.on(x) ? 1 : 0, 0, status, null, null);
    }

    /** STATUS is 0, whatever it answers. */
    void accepts(String told, Recipe recipe, Call call) {
        TuneBench x = furnished(recipe, 0);
        call.on(x);
        check.due("STATUS behind " + told, x.status(), 0);
    }

    void due(String told, long got, long want) {
        check.due(told, got, want);
    }

    void due(String told, String got, String want) {
        check.due(told, got, want);
    }

    void finish() {
        check.finish();
    }

    private void ask(String told, Recipe recipe, Call call, long want, int status, String part, String text) {
        TuneBench untouched = new TuneBench();
        recipe.furnish(untouched);
        Map<String, String> due = State.of(untouched);
        if (part != null) {
            due.put(part, text);
        }
        TuneBench x = furnished(recipe, status);
        check.due(told, call.on(x), want);
        check.due("STATUS behind " + told, x.status(), status);
        if (part == null) {
            check.due("the same again: " + told, call.on(x), want);
            check.due("STATUS behind the same again: " + told, x.status(), status);
        }
        Map<String, String> found = State.of(x);
        for (String name : due.keySet()) {
            check.due(name + " behind " + told, found.get(name), due.get(name));
        }
    }

    /** STATUS ahead of the call is another than the one that is due, so that it is seen to be set. */
    private static TuneBench furnished(Recipe recipe, int status) {
        TuneBench x = new TuneBench();
        recipe.furnish(x);
        if (status == 0) {
            x.drop(16);
        } else {
            x.map(1, 0);
        }
        return x;
    }
}
