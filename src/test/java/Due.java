import java.nio.charset.StandardCharsets;

/** What the tests share: answers that are due, counted; texts brought to the tape. */
final class Due {
    static final int BAD = -1000000001;
    static final int NO = -1000000002;
    static final int FULL = -1000000003;
    static final int NONE = -1000000005;
    static final int NOTHING = -1000000011;
    static final int KIND = -1000000012;
    static final int INDEX = -1000000013;
    static final int SIZE = -1000000014;

    private static int asked = 0;
    private static int wrong = 0;

    private Due() {
    }

    static void is(String call, long got, long want) {
        asked++;
        if (got != want) {
            wrong++;
            System.out.println(call + " answered " + got + ", due is " + want);
        }
    }

    static void holds(String what, boolean so) {
        is(what, so ? 1 : 0, 1);
    }

    static void end() {
        System.out.println(asked + " answers, " + wrong + " wrong");
        if (wrong != 0 || asked == 0) {
            System.exit(1);
        }
    }

    /** Brings a text to an empty tape, filled up with blanks and trimmed. */
    static void feed(BirthWeeks w, String text) {
        byte[] bytes = text.getBytes(StandardCharsets.ISO_8859_1);
        for (int i = 0; i < bytes.length; i += 12) {
            w.feed(four(bytes, i), four(bytes, i + 4), four(bytes, i + 8));
        }
        w.trim(bytes.length);
    }

    static int text(BirthWeeks w, String text) {
        feed(w, text);
        return w.text();
    }

    static int four(byte[] bytes, int from) {
        int v = 0;
        for (int i = from; i < from + 4; i++) {
            v = v << 8 | (i < bytes.length ? bytes[i] & 255 : 32);
        }
        return v;
    }

    /** What can be told of an object without changing it, in one line; some hundred calls. */
    static String state(BirthWeeks w) {
        StringBuilder s = new StringBuilder();
        for (int what = 0; what <= 9; what++) {
            s.append(w.count(what)).append(' ');
        }
        for (int i = 0; i < w.count(0); i++) {
            for (int what = 0; what <= 9; what++) {
                s.append(w.told(i, what)).append(' ');
            }
        }
        for (int key = 0; key < 3; key++) {
            s.append(w.why(key)).append(' ');
        }
        for (int slot = 0; slot < 5; slot++) {
            s.append(w.ask(slot, 0)).append(' ').append(w.rest(slot, 1000)).append(' ');
            for (int place = 0; place <= 2; place++) {
                s.append(w.item(slot, place)).append(' ');
            }
        }
        return s.toString();
    }
}
