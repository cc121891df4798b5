import java.util.ArrayList;
import java.util.List;
import java.util.Random;

/** Runs of calls by lot (always the same lots), on the class and on the model beside it. */
public final class ModelTest {
    private static final String[] PARTS = {"x", "l", "p", "w", "d", "b", "0", "1", "2", "7", "30", "9999", "12345", "+",
        "-", "*", "/", "<", "=", ">", "&", "|", "!", "(", ")", " ", "  ", "xx", "birth", "?", "A", "\u00ff"};

    private final Random lot;
    private final BirthWeeks w = new BirthWeeks();
    private final Model m = new Model();
    private final List<String> log = new ArrayList<>();
    private boolean same = true;

    private ModelTest(long seed) {
        lot = new Random(seed);
    }

    public static void main(String[] args) {
        int runs = args.length > 0 ? Integer.parseInt(args[0]) : 400;
        long first = args.length > 1 ? Long.parseLong(args[1]) : 0;
        for (int i = 0; i < runs; i++) {
            ModelTest test = new ModelTest(first + i);
            test.run();
            if (!test.same) {
                System.out.println("run " + (first + i) + ": " + String.join("; ", test.log));
            }
            Due.holds("run " + (first + i) + " as by the model", test.same);
        }
        Due.end();
    }

    private void run() {
        if (lot.nextInt(8) == 0) {
            for (int i = 0; i < 333 + lot.nextInt(2); i++) {
                call("days", 300);
            }
        }
        if (lot.nextInt(3) > 0) {
            call("seed", lot.nextInt());
            call("deal", 1 + lot.nextInt(6));
        }
        while (same && log.size() < 490) {
            step();
        }
    }

    private int call(String name, int... a) {
        int got = Calls.on(w, name, a);
        int due = m.call(name, a);
        StringBuilder s = new StringBuilder(name);
        for (int v : a) {
            s.append(' ').append(v);
        }
        log.add(s + " -> " + got + (got == due ? "" : " DUE " + due));
        same &= got == due;
        return got;
    }

    /** Mostly within, sometimes right outside, seldom anywhere. */
    private int pick(int least, int most) {
        int how = lot.nextInt(40);
        if (how == 0) {
            return lot.nextBoolean() ? least - 1 : most + 1;
        }
        if (how == 1) {
            int[] odd = {Integer.MIN_VALUE, Integer.MAX_VALUE, Due.NONE, -1, lot.nextInt()};
            return odd[lot.nextInt(odd.length)];
        }
        if (how < 6) {
            return lot.nextBoolean() ? least : most;
        }
        return least + lot.nextInt(most - least + 1);
    }

    private int district() {
        return pick(0, Math.max(1, w.count(0)) - 1);
    }

    private int length() {
        return lot.nextInt(4) == 0 ? pick(0, 300) : pick(0, 40);
    }

    private void step() {
        switch (lot.nextInt(44)) {
            case 0: call("district", pick(0, 5), pick(0, 9)); break;
            case 1: case 2: call("told", district(), pick(0, 9)); break;
            case 3: call("births", district(), pick(0, 9)); break;
            case 4: call("as", district(), pick(0, 5)); break;
            case 5: call("turns", district(), pick(0, 5)); break;
            case 6: setOne(); break;
            case 7: case 8: call("hide", district()); break;
            case 9: ruleOne(); break;
            case 10: call("deal", lot.nextInt(3) == 0 ? pick(1, 6) : pick(1, 1)); break;
            case 11: call("seed", lot.nextInt()); break;
            case 12: case 13: case 14: call("days", Math.max(1, length())); break;
            case 15: call("days", pick(1, 9)); break;
            case 16: call("behind", district(), length(), pick(0, 4)); break;
            case 17: call("meets", district(), district()); break;
            case 18: call("sundays", district(), length()); break;
            case 19: call("trader", district(), pick(0, 100)); break;
            case 20: call("richest", length()); break;
            case 21: call("brings", district(), length()); break;
            case 22: call("rated", pick(0, 3), district(), pick(0, 1)); break;
            case 23: call("fine"); break;
            case 24: case 25: case 26: tellText(); break;
            case 27: call("textTold", pick(0, Math.max(1, w.count(6)) - 1), pick(0, 1)); break;
            case 28: call("why", pick(0, 2)); break;
            case 29: call("sheet", pick(0, 3), pick(-1, 1), pick(0, 24)); break;
            case 30: case 31: markSome(); break;
            case 32: call("pour", pick(0, 3)); break;
            case 33: readSome(); break;
            case 34: call("copy", pick(0, 3), pick(0, 12), pick(0, 3), pick(0, 12), pick(0, 8)); break;
            case 35: layOne(); break;
            case 36: call("ask", pick(0, 4), pick(0, 5)); break;
            case 37: call("item", pick(0, 4), pick(0, 10)); break;
            case 38: call("rest", pick(0, 4), pick(-20, 20)); break;
            case 39: checkSome(); break;
            case 40: call("keep"); break;
            case 41: call("back"); break;
            case 42: call("feed", lot.nextInt(), lot.nextInt(), lot.nextInt()); break;
            default: call("count", pick(0, 9)); break;
        }
    }

    private void setOne() {
        int what = pick(1, 3);
        int v = what == 1 ? pick(0, 9) : what == 2 ? pick(2, 60) : pick(-99999, 99999);
        call("set", district(), what, v);
    }

    private void ruleOne() {
        int what = pick(0, 2);
        int v = what == 0 ? pick(0, 999) : what == 1 ? pick(0, 99) : lot.nextInt(4) == 0 ? pick(0, 59) : pick(0, 6);
        call("rule", what, v);
    }

    private void layOne() {
        int thing = pick(0, 3);
        int k = thing == 1 ? district() : thing == 2 ? pick(0, 3) : lot.nextInt();
        call("lay", pick(0, 4), thing, k);
    }

    private void markSome() {
        int sheet = pick(0, 3);
        for (int i = 0; i < 5; i++) {
            int v = lot.nextInt(5) == 0 ? Due.NONE : lot.nextInt(6) == 0 ? pick(-99999, 99999) : pick(0, 30);
            call("mark", sheet, pick(0, 7), v);
        }
    }

    private void readSome() {
        int sheet = pick(0, 3);
        int district = district();
        for (int i = 0; i < 10; i++) {
            int k = call("reads", sheet, district);
            if (k >= 0 && lot.nextInt(6) > 0) {
                call("mark", sheet, k, w.behind(district, k, 2));
            }
        }
    }

    private void checkSome() {
        if (lot.nextInt(4) > 0) {
            call("keep");
            int n = pick(1, 12);
            for (int i = 0; i < n && n < 31; i++) {
                call("days", 1);
                int fairs = 0;
                for (int d = 0; d < w.count(0); d++) {
                    fairs += w.told(d, 9);
                }
                call("tell", lot.nextInt(40) == 0 ? pick(0, 6) : fairs);
                call("tell", lot.nextInt(40) == 0 ? pick(0, 6) : w.count(5));
            }
            if (lot.nextInt(3) == 0) {
                call("back");
            }
            call("check", lot.nextInt(5) > 0 ? n : pick(1, 30));
            return;
        }
        call("tell", pick(-100, 6));
        call("check", pick(1, 30));
    }

    private void tellText() {
        int key = lot.nextInt(3);
        String text = new String[] {"birth", "wage", "fine"}[key] + (lot.nextInt(20) > 0 ? " " : "");
        if (lot.nextInt(3) == 0) {
            int parts = lot.nextInt(20);
            for (int i = 0; i < parts; i++) {
                text += PARTS[lot.nextInt(PARTS.length)];
            }
        } else {
            text += sound(new String[] {"xlp", "lw", "db"}[key], 4);
            if (lot.nextInt(4) == 0) {
                int at = lot.nextInt(text.length());
                text = text.substring(0, at) + PARTS[lot.nextInt(PARTS.length)] + text.substring(at + lot.nextInt(2));
            }
        }
        text = text.length() > 96 ? text.substring(0, 96) : text;
        call("trim", 0);
        byte[] bytes = text.getBytes(java.nio.charset.StandardCharsets.ISO_8859_1);
        for (int i = 0; i < bytes.length; i += 12) {
            call("feed", Due.four(bytes, i), Due.four(bytes, i + 4), Due.four(bytes, i + 8));
        }
        call("trim", text.length());
        call("text");
    }

    private String sound(String names, int depth) {
        int how = lot.nextInt(depth > 0 ? 8 : 3);
        String blank = lot.nextInt(6) == 0 ? " " : "";
        switch (how) {
            case 0: return "" + lot.nextInt(lot.nextBoolean() ? 10 : 10000);
            case 1: case 2: return blank + names.charAt(lot.nextInt(names.length()));
            case 3: return "!" + blank + sound(names, depth - 1);
            case 4: return "(" + sound(names, depth - 1) + blank + ")";
            default:
                return sound(names, depth - 1) + blank + "+-*/<=>&|+-*".charAt(lot.nextInt(12)) + sound(names, depth - 1);
        }
    }
}
