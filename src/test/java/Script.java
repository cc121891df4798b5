import java.nio.charset.StandardCharsets;
import java.util.Arrays;
import java.util.Map;
import java.util.regex.Matcher;
import java.util.regex.Pattern;

/**
 * An object that is called by rows, each with the answer that is due:
 * "told(0, 3) = 7", many times: "333 x days(300)", bytes that come to an empty tape: "<fine d>", and bytes
 * that do and are told as a text: "'fine d' = 0". A row without an answer is only called.
 */
final class Script {
    /** What is answered to later calls is free, so no test may lean on it. */
    private static final int MOST_CALLS = 512;
    private static final Pattern ROW = Pattern.compile("(?:(\\d+) x )?(.*?)(?: = (\\S+))?", Pattern.DOTALL);
    private static final Pattern CALL = Pattern.compile("(\\w+)\\((.*)\\)");
    private static final Map<String, Integer> WORDS = Map.of("BAD", Due.BAD, "NO", Due.NO, "FULL", Due.FULL,
            "NONE", Due.NONE, "NOTHING", Due.NOTHING, "KIND", Due.KIND, "INDEX", Due.INDEX, "SIZE", Due.SIZE,
            "MIN", Integer.MIN_VALUE, "MAX", Integer.MAX_VALUE);

    private final BirthWeeks w = new BirthWeeks();
    private final String name;
    /** Null, or what must answer every call alike. */
    private final Model beside;
    private int calls = 0;

    Script(String name, String... rows) {
        this(name, null, rows);
    }

    Script(String name, Model beside, String... rows) {
        this.name = name;
        this.beside = beside;
        run(rows);
    }

    void run(String... rows) {
        for (String row : rows) {
            runRow(row);
        }
    }

    private void runRow(String row) {
        Matcher parts = ROW.matcher(row);
        if (!parts.matches()) {
            throw new IllegalArgumentException(row);
        }
        int times = parts.group(1) == null ? 1 : Integer.parseInt(parts.group(1));
        for (int i = 0; i < times; i++) {
            int got = answer(parts.group(2));
            if (parts.group(3) != null) {
                Due.is(name + ": " + parts.group(2), got, number(parts.group(3)));
            }
        }
    }

    int answer(String call) {
        if (call.startsWith("'") || call.startsWith("<")) {
            int tape = fed(call.substring(1, call.length() - 1));
            return call.startsWith("<") ? tape : one("text");
        }
        Matcher parts = CALL.matcher(call);
        if (!parts.matches()) {
            throw new IllegalArgumentException(call);
        }
        String[] words = parts.group(2).isEmpty() ? new String[0] : parts.group(2).split(", ");
        int[] a = new int[words.length];
        for (int i = 0; i < a.length; i++) {
            a[i] = number(words[i]);
        }
        return one(parts.group(1), a);
    }

    /** They come filled up with blanks, which are trimmed. */
    private int fed(String text) {
        byte[] bytes = text.getBytes(StandardCharsets.ISO_8859_1);
        for (int i = 0; i < bytes.length; i += 12) {
            one("feed", Due.four(bytes, i), Due.four(bytes, i + 4), Due.four(bytes, i + 8));
        }
        return one("trim", bytes.length);
    }

    int one(String call, int... a) {
        calls++;
        if (calls > MOST_CALLS) {
            Due.holds(name + ": no more than " + MOST_CALLS + " calls", calls != MOST_CALLS + 1);
        }
        int got = Calls.on(w, call, a);
        if (beside != null) {
            int due = beside.call(call, a);
            Due.is(got == due ? name : name + ": " + call + Arrays.toString(a), got, due);
        }
        return got;
    }

    int callsLeft() {
        return MOST_CALLS - calls;
    }

    private static int number(String word) {
        Integer named = WORDS.get(word);
        return named != null ? named : Integer.decode(word);
    }
}
