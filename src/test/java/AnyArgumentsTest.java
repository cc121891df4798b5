/**
 * Every call with every edge that the document names, one beside it, and what lies far off, in each of its
 * arguments: none throws, and each answers as the model does.
 */
public final class AnyArgumentsTest {
    private static final int[] EDGES = {Integer.MIN_VALUE, Due.NONE, -100000, -99999, -1, 0, 1, 2, 3, 4, 5, 6, 7, 9, 10, 14,
        24, 25, 30, 31, 59, 60, 61, 99, 100, 101, 300, 301, 999, 1000, 99999, 100000, Integer.MAX_VALUE};
    /** For copy, whose five arguments are sheets, places and a number of places. */
    private static final int[] OF_ROWS = {Integer.MIN_VALUE, -1, 0, 1, 3, 4, 5, 24, Integer.MAX_VALUE};

    private final String[] scene;
    private Script script = null;

    private AnyArgumentsTest(String[] scene) {
        this.scene = scene;
    }

    public static void main(String[] args) {
        for (String[] scene : new String[][] {Scenes.NEW, Scenes.FEW, Scenes.BRIM}) {
            AnyArgumentsTest test = new AnyArgumentsTest(scene);
            for (String call : Calls.FACE.split(" ")) {
                int colon = call.indexOf(':');
                test.script = null;
                test.all(call.substring(0, colon), new int[call.charAt(colon + 1) - '0'], 0);
            }
        }
        Due.end();
    }

    /** Puts each edge into each argument from one on. */
    private void all(String call, int[] a, int from) {
        if (from == a.length) {
            begun().one(call, a);
            return;
        }
        for (int v : a.length > 3 ? OF_ROWS : EDGES) {
            a[from] = v;
            all(call, a, from + 1);
        }
    }

    /** The object goes on from call to call until it has been called often enough. */
    private Script begun() {
        if (script == null || script.callsLeft() == 0) {
            script = new Script("any arguments", new Model(), scene);
        }
        return script;
    }
}
