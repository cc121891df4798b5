import java.util.ArrayList;
import java.util.HashMap;
import java.util.List;
import java.util.Map;

/**
 * The document once more, in another way: whole worlds are copied and lived, laws are split at their
 * loosest sign, faults are found by what may come next. Slow; ModelTest sets it beside the class.
 */
final class Model {
    private static final int[] UNDER = {-1, 0, 0, 1, 2, 0};
    private static final String[] KEYS = {"birth", "wage", "fine"};
    private static final String[] NAMES = {"xlp", "lw", "db"};

    private static final class Place {
        int kind;
        int rate;
        int week;
        int days = 7;
        int place;
        int born;
        int hidden;
        long purse;

        Place(int kind, int rate) {
            this.kind = kind;
            this.rate = rate;
        }

        Place(Place p) {
            this(p.kind, p.rate);
            week = p.week;
            days = p.days;
            place = p.place;
            born = p.born;
            hidden = p.hidden;
            purse = p.purse;
        }

        boolean of(int wanted) {
            return kind == wanted || kind > 0 && (UNDER[kind] == wanted || wanted == 0);
        }

        int worth() {
            return new int[] {rate, rate + 2, 30 - rate, (rate + 2) * 2, 26 - rate, 11}[kind];
        }
    }

    private static final class Text {
        final int key;
        final List<String> words;

        Text(int key, List<String> words) {
            this.key = key;
            this.words = words;
        }

        int atoms() {
            int n = 0;
            for (String s : words) {
                n += Character.isLetterOrDigit(s.charAt(0)) ? 1 : 0;
            }
            return n;
        }
    }

    private static final class World {
        List<Place> places = new ArrayList<>();
        List<Text> texts = new ArrayList<>();
        int[] why = {-1, -1, -1};
        int day;
        int[] rules = {20, 2, 2};
        int z = 1;

        World() {
        }

        World(World w) {
            for (Place p : w.places) {
                places.add(new Place(p));
            }
            texts.addAll(w.texts);
            why = w.why.clone();
            day = w.day;
            rules = w.rules.clone();
            z = w.z;
        }

        int draw() {
            z = z * 1103515245 + 12345;
            return z >>> 8;
        }

        Integer law(int key, int... values) {
            if (why[key] < 0) {
                return null;
            }
            Map<String, Integer> names = new HashMap<>();
            for (int i = 0; i < values.length; i++) {
                names.put(NAMES[key].substring(i, i + 1), values[i]);
            }
            return value(texts.get(why[key]).words, names);
        }

        int births(Place p, int x) {
            Integer given = law(0, x, p.days, p.place);
            int plain = given == null ? x : given;
            plain = plain < 0 ? 0 : plain > 30 ? 30 : plain;
            if (p.kind == 5) {
                return p.rate;
            }
            if (p.of(1)) {
                return p.kind == 3 && p.place == 0 ? 0 : plain / 2;
            }
            if (p.of(2)) {
                return (plain + 1) * (p.kind == 4 && p.place + 1 == p.days ? 2 : 1);
            }
            return plain;
        }

        int live() {
            int began = 0;
            for (Place p : places) {
                p.born += births(p, draw() % (p.rate + 1));
                p.purse -= rules[1];
                if (++p.place == p.days) {
                    Integer given = law(1, p.days, p.week);
                    p.purse += given == null ? rules[0] : Math.max(0, Math.min(9999, given));
                    p.week++;
                    p.days = Math.max(2, Math.min(60, p.born));
                    p.born = p.hidden;
                    p.hidden = 0;
                    p.place = 0;
                    began++;
                }
            }
            day++;
            return began;
        }

        World after(int n) {
            World w = new World(this);
            for (int i = 0; i < n; i++) {
                w.live();
            }
            return w;
        }

        boolean fair(int i) {
            return places.get(i).place == rules[2];
        }

        int fairs() {
            int n = 0;
            for (int i = 0; i < places.size(); i++) {
                n += fair(i) ? 1 : 0;
            }
            return n;
        }

        long purses() {
            long sum = 0;
            for (Place p : places) {
                sum += p.purse;
            }
            return sum;
        }
    }

    /** Splits at the loosest sign outside all brackets, the last of them. */
    static int value(List<String> e, Map<String, Integer> names) {
        for (String signs : new String[] {"|", "&", "<=>", "+-", "*/"}) {
            int depth = 0;
            for (int i = e.size() - 1; i > 0; i--) {
                String s = e.get(i);
                depth += s.equals(")") ? 1 : s.equals("(") ? -1 : 0;
                if (depth == 0 && signs.contains(s)) {
                    int a = value(e.subList(0, i), names);
                    int b = value(e.subList(i + 1, e.size()), names);
                    return join(s.charAt(0), a, b);
                }
            }
        }
        String first = e.get(0);
        if (first.equals("!")) {
            return value(e.subList(1, e.size()), names) == 0 ? 1 : 0;
        }
        if (first.equals("(")) {
            return value(e.subList(1, e.size() - 1), names);
        }
        return names.containsKey(first) ? names.get(first) : Integer.parseInt(first);
    }

    private static int join(char sign, int a, int b) {
        switch (sign) {
            case '|': return (a | b) != 0 ? 1 : 0;
            case '&': return a * (long) b != 0 ? 1 : 0;
            case '<': return a < b ? 1 : 0;
            case '=': return a == b ? 1 : 0;
            case '>': return a > b ? 1 : 0;
            case '+': return a + b;
            case '-': return a - b;
            case '*': return a * b;
            default: return b == 0 ? 0 : (int) ((long) a / b);
        }
    }

    private static boolean letter(char c) {
        return c >= 'a' && c <= 'z';
    }

    private static boolean digit(char c) {
        return c >= '0' && c <= '9';
    }

    /** Goes over the tape from left to right: the place of the fault, or -1; words and signs come to out. */
    private static int fault(String tape, List<String> out) {
        int i = 0;
        boolean piece = true;
        boolean behindWord = false;
        // of each bracket that is open, the outermost first: whether a test stood in it since & or |
        List<Boolean> tested = new ArrayList<>(List.of(false));
        List<Integer> bangs = new ArrayList<>(List.of(0));
        while (i < tape.length()) {
            char c = tape.charAt(i);
            if (c == ' ') {
                i++;
                behindWord = false;
                continue;
            }
            int j = i + 1;
            while (j < tape.length() && (letter(c) && letter(tape.charAt(j)) || digit(c) && digit(tape.charAt(j)))) {
                j++;
            }
            String s = tape.substring(i, j);
            boolean word = letter(c) || digit(c);
            int last = tested.size() - 1;
            int open = 0;
            for (int n : bangs) {
                open += n;
            }
            if (word && behindWord) {
                return i;
            }
            if (out.isEmpty()) {
                if (!List.of(KEYS).contains(s)) {
                    return i;
                }
            } else if (piece) {
                String names = NAMES[List.of(KEYS).indexOf(out.get(0))];
                if (c == '(') {
                    if (last == 8) {
                        return i;
                    }
                    tested.add(false);
                    bangs.add(0);
                } else if (c == '!') {
                    if (open == 8) {
                        return i;
                    }
                    bangs.set(last, bangs.get(last) + 1);
                } else if (digit(c) && s.length() <= 4 || letter(c) && s.length() == 1 && names.contains(s)) {
                    piece = false;
                    bangs.set(last, 0);
                } else {
                    return i;
                }
            } else if (c == ')') {
                if (last == 0) {
                    return i;
                }
                tested.remove(last);
                bangs.remove(last);
                bangs.set(last - 1, 0);
            } else if ("|&<=>+-*/".indexOf(c) >= 0) {
                boolean test = "<=>".indexOf(c) >= 0;
                if (test && tested.get(last)) {
                    return i;
                }
                tested.set(last, test || "|&".indexOf(c) < 0 && tested.get(last));
                piece = true;
            } else {
                return i;
            }
            out.add(s);
            behindWord = word;
            i = j;
        }
        return out.isEmpty() || piece || tested.size() > 1 ? tape.length() : -1;
    }

    private World now = new World();
    private World image = null;
    private String tape = "";
    private final List<Long> waiting = new ArrayList<>();
    private final int[][] sheets = new int[4][];
    private final int[] sorts = new int[4];
    private final Object[] slots = new Object[5];

    private boolean is(int district) {
        return district >= 0 && district < now.places.size();
    }

    private static boolean in(int v, int a, int b) {
        return a <= v && v <= b;
    }

    /** A call by its name. */
    int call(String name, int[] a) {
        switch (name) {
            case "district":
            case "told":
            case "births":
            case "as":
            case "turns":
            case "set":
            case "hide":
            case "rule":
            case "deal":
            case "seed": return districtCall(name, a);
            case "days":
            case "behind":
            case "meets":
            case "sundays":
            case "trader":
            case "richest":
            case "brings":
            case "rated":
            case "fine": return dayCall(name, a);
            case "feed":
            case "trim":
            case "text":
            case "textTold":
            case "why": return textCall(name, a);
            case "sheet":
            case "mark":
            case "pour":
            case "reads":
            case "copy": return sheetCall(name, a);
            case "lay":
            case "ask":
            case "item":
            case "rest": return slotCall(name, a);
            default: return rowCall(name, a);
        }
    }

    private int districtCall(String name, int[] a) {
        int p = a[0];
        int q = a.length > 1 ? a[1] : 0;
        switch (name) {
            case "district":
                if (!in(p, 0, 5) || !in(q, 0, 9)) {
                    return Due.BAD;
                }
                if (now.places.size() == 6) {
                    return Due.FULL;
                }
                now.places.add(new Place(p, q));
                return now.places.size() - 1;
            case "rule":
                if (!in(p, 0, 2) || !in(q, 0, new int[] {999, 99, 59}[p])) {
                    return Due.BAD;
                }
                int was = now.rules[p];
                now.rules[p] = q;
                return was;
            case "deal":
                if (!in(p, 1, 6)) {
                    return Due.BAD;
                }
                int came = 0;
                while (came < p && now.places.size() < 6) {
                    int kind = now.draw() % 6;
                    now.places.add(new Place(kind, now.draw() % 10));
                    came++;
                }
                return came;
            case "seed":
                int z = now.z;
                now.z = p;
                return z;
            default:
                return is(p) ? ofDistrict(name, now.places.get(p), p, q, a.length > 2 ? a[2] : 0) : Due.BAD;
        }
    }

    private int ofDistrict(String name, Place d, int number, int q, int v) {
        int was;
        switch (name) {
            case "told":
                if (!in(q, 0, 9)) {
                    return Due.BAD;
                }
                return new int[] {d.kind, d.rate, d.week, d.days, d.place, d.born, d.hidden, (int) d.purse, d.worth(),
                    now.fair(number) ? 1 : 0}[q];
            case "births":
                return in(q, 0, 9) ? now.births(d, q) : Due.BAD;
            case "as":
                return !in(q, 0, 5) ? Due.BAD : d.of(q) ? d.rate : Due.KIND;
            case "turns":
                if (!in(q, 0, 5)) {
                    return Due.BAD;
                }
                was = d.kind;
                d.kind = q;
                return was;
            case "set":
                if (q == 1 && in(v, 0, 9)) {
                    was = d.rate;
                    d.rate = v;
                    return was;
                }
                if (q == 2 && in(v, 2, 60)) {
                    was = d.days;
                    d.days = v;
                    d.place = 0;
                    return was;
                }
                if (q == 3 && in(v, -99999, 99999)) {
                    was = (int) d.purse;
                    d.purse = v;
                    return was;
                }
                return Due.BAD;
            default:
                if (d.born == 0) {
                    return Due.NO;
                }
                d.born--;
                return ++d.hidden;
        }
    }

    private int dayCall(String name, int[] a) {
        int p = a.length > 0 ? a[0] : 0;
        int q = a.length > 1 ? a[1] : 0;
        switch (name) {
            case "days":
                if (!in(p, 1, 300)) {
                    return Due.BAD;
                }
                int began = 0;
                for (int i = 0; i < p && now.day < 99999; i++) {
                    began += now.live();
                }
                return began;
            case "behind":
                if (!is(p) || !in(q, 0, 300) || !in(a[2], 0, 4)) {
                    return Due.BAD;
                }
                Place d = now.after(q).places.get(p);
                return new int[] {d.week, d.days, d.place, d.born, (int) d.purse}[a[2]];
            case "meets":
                if (!is(p) || !is(q)) {
                    return Due.BAD;
                }
                World w = now;
                for (int day = 0; day < 201; day++) {
                    if (w.fair(p) && w.fair(q)) {
                        return day;
                    }
                    w = w.after(1);
                }
                return Due.NONE;
            case "sundays":
                if (!is(p) || !in(q, 0, 300)) {
                    return Due.BAD;
                }
                int found = 0;
                World s = now;
                for (int day = 0; day < q; day++) {
                    s = s.after(1);
                    found += s.places.get(p).place == 0 ? 1 : 0;
                }
                return found;
            case "trader":
                return is(p) && in(q, 0, 100) ? most(p, q) : Due.BAD;
            case "richest":
                if (!in(p, 0, 300)) {
                    return Due.BAD;
                }
                World r = now.after(p);
                int best = Due.NONE;
                for (int i = r.places.size() - 1; i >= 0; i--) {
                    best = best < 0 || r.places.get(i).purse >= r.places.get(best).purse ? i : best;
                }
                return best;
            case "brings":
                if (!is(p) || !in(q, 0, 300)) {
                    return Due.BAD;
                }
                if (now.places.get(p).born == 0) {
                    return Due.NO;
                }
                World other = new World(now);
                other.places.get(p).born--;
                other.places.get(p).hidden++;
                return (int) (other.after(q).places.get(p).purse - now.after(q).places.get(p).purse);
            case "rated":
                return rated(p, q, a[2]);
            default:
                int born = 0;
                for (Place b : now.places) {
                    born += b.born;
                }
                Integer given = now.law(2, now.day, born);
                return given == null ? 0 : given;
        }
    }

    /** Goes back from the last day: the most that can still be seen from each place on. */
    private int most(int from, int n) {
        List<World> days = new ArrayList<>(List.of(now));
        for (int i = 0; i < n; i++) {
            days.add(days.get(i).after(1));
        }
        int many = now.places.size();
        int[] later = new int[many];
        for (int day = n; day >= 0; day--) {
            int[] here = new int[many];
            for (int i = 0; i < many; i++) {
                for (int to = Math.max(0, i - 1); to <= Math.min(many - 1, i + 1); to++) {
                    here[i] = Math.max(here[i], later[to]);
                }
                here[i] += days.get(day).fair(i) ? 1 : 0;
            }
            later = here;
        }
        return later[from];
    }

    private int rated(int sheet, int district, int what) {
        if (!in(sheet, 0, 3) || !is(district) || !in(what, 0, 1)) {
            return Due.BAD;
        }
        if (sheets[sheet] == null) {
            return Due.NOTHING;
        }
        int[] sums = new int[10];
        int best = 0;
        for (int rate = 0; rate < 10; rate++) {
            World w = new World(now);
            Place d = w.places.get(district);
            d.rate = rate;
            int first = d.week;
            int counted = -1;
            while (d.week - first < 6) {
                int k = d.week - first;
                if (k > counted && k < sheets[sheet].length && sheets[sheet][k] != Due.NONE) {
                    sums[rate] += Math.abs(d.days - sheets[sheet][k]);
                }
                counted = k;
                w.live();
            }
            best = sums[rate] < sums[best] ? rate : best;
        }
        return what == 0 ? best : sums[best];
    }

    private int textCall(String name, int[] a) {
        switch (name) {
            case "feed":
                if (tape.length() + 12 > 96) {
                    return Due.FULL;
                }
                for (int v : a) {
                    tape += "" + (char) (v >> 24 & 255) + (char) (v >> 16 & 255) + (char) (v >> 8 & 255) + (char) (v & 255);
                }
                return tape.length();
            case "trim":
                if (!in(a[0], 0, tape.length())) {
                    return Due.BAD;
                }
                tape = tape.substring(0, a[0]);
                return a[0];
            case "text":
                List<String> words = new ArrayList<>();
                int fault = fault(tape, words);
                tape = "";
                if (fault >= 0) {
                    return -100 - fault;
                }
                if (now.texts.size() == 14) {
                    return Due.FULL;
                }
                int key = List.of(KEYS).indexOf(words.get(0));
                now.texts.add(new Text(key, words.subList(1, words.size())));
                now.why[key] = now.texts.size() - 1;
                return now.why[key];
            case "textTold":
                if (!in(a[0], 0, now.texts.size() - 1) || !in(a[1], 0, 1)) {
                    return Due.BAD;
                }
                Text t = now.texts.get(a[0]);
                return a[1] == 0 ? t.key : t.atoms();
            default:
                return !in(a[0], 0, 2) ? Due.BAD : now.why[a[0]] < 0 ? Due.NONE : now.why[a[0]];
        }
    }

    private int sheetCall(String name, int[] a) {
        int s = a[0];
        if (!in(s, 0, 3)) {
            return Due.BAD;
        }
        switch (name) {
            case "sheet":
                if (!in(a[1], -1, 1) || a[1] >= 0 && a[2] > 24) {
                    return Due.BAD;
                }
                if (a[1] >= 0 && a[2] < 0) {
                    return Due.SIZE;
                }
                sheets[s] = a[1] < 0 ? null : new int[a[2]];
                sorts[s] = a[1];
                return a[1] < 0 ? 0 : a[2];
            case "mark":
                if (sheets[s] == null) {
                    return Due.NOTHING;
                }
                if (!in(a[1], 0, sheets[s].length - 1)) {
                    return Due.INDEX;
                }
                if (sorts[s] == 0) {
                    if (a[2] == Due.NONE) {
                        return Due.KIND;
                    }
                    sheets[s][a[1]] = a[2] << 16 >> 16;
                    return 1;
                }
                if (a[2] != Due.NONE && Math.abs((long) a[2]) > 99999) {
                    return Due.BAD;
                }
                sheets[s][a[1]] = a[2];
                return 1;
            case "pour":
                if (sheets[s] == null) {
                    return Due.NOTHING;
                }
                int otherwise = 0;
                for (int i = 0; i < Math.min(now.places.size(), sheets[s].length); i++) {
                    if (sheets[s][i] != Due.NONE) {
                        int rate = sheets[s][i] < 0 ? 0 : sheets[s][i] > 9 ? 9 : sheets[s][i];
                        otherwise += rate == now.places.get(i).rate ? 0 : 1;
                        now.places.get(i).rate = rate;
                    }
                }
                return otherwise;
            case "reads":
                if (!is(a[1])) {
                    return Due.BAD;
                }
                if (sheets[s] == null) {
                    return Due.NOTHING;
                }
                for (int k = 0; k < sheets[s].length; k++) {
                    if (sheets[s][k] != Due.NONE && sheets[s][k] != now.after(k).places.get(a[1]).place) {
                        return k;
                    }
                }
                return Due.NONE;
            default:
                return copied(s, a[1], a[2], a[3], a[4]);
        }
    }

    private int copied(int from, int place, int to, int at, int many) {
        if (!in(to, 0, 3)) {
            return Due.BAD;
        }
        if (sheets[from] == null || sheets[to] == null) {
            return Due.NOTHING;
        }
        if (sorts[from] != sorts[to]) {
            return Due.KIND;
        }
        if (many < 0 || place < 0 || at < 0 || (long) place + many > sheets[from].length
                || (long) at + many > sheets[to].length) {
            return Due.INDEX;
        }
        int[] were = sheets[from].clone();
        for (int i = 0; i < many; i++) {
            sheets[to][at + i] = were[place + i];
        }
        return many;
    }

    private static int thing(Object o) {
        return o == null ? 0 : o instanceof Place ? 1 : o instanceof int[] ? 2 : 3;
    }

    private int slotCall(String name, int[] a) {
        if (!in(a[0], 0, 4)) {
            return Due.BAD;
        }
        int thing = thing(slots[a[0]]);
        if (name.equals("lay")) {
            if (!in(a[1], 0, 3) || a[1] == 1 && !is(a[2]) || a[1] == 2 && !in(a[2], 0, 3)) {
                return Due.BAD;
            }
            if (a[1] == 2 && sheets[a[2]] == null) {
                return Due.NOTHING;
            }
            slots[a[0]] = a[1] == 0 ? null : a[1] == 1 ? new Place(now.places.get(a[2]))
                    : a[1] == 2 ? sheets[a[2]].clone() : Integer.valueOf(a[2]);
            return thing;
        }
        if (name.equals("ask") && !in(a[1], 0, 5)) {
            return Due.BAD;
        }
        if (thing == 0) {
            return Due.NOTHING;
        }
        if (name.equals("ask")) {
            return thing == 1 && ((Place) slots[a[0]]).of(a[1]) ? ((Place) slots[a[0]]).worth() : Due.KIND;
        }
        if (name.equals("item")) {
            if (thing != 2) {
                return Due.KIND;
            }
            int[] row = (int[]) slots[a[0]];
            return !in(a[1], 0, row.length - 1) ? Due.INDEX : row[a[1]] == Due.NONE ? Due.KIND : row[a[1]];
        }
        return thing != 3 ? Due.KIND : a[1] == 0 ? Due.NO : (int) ((long) (Integer) slots[a[0]] % a[1]);
    }

    private int rowCall(String name, int[] a) {
        switch (name) {
            case "tell":
                if (waiting.size() == 60) {
                    return Due.FULL;
                }
                waiting.add((long) a[0]);
                return waiting.size();
            case "check":
                List<Long> told = new ArrayList<>(waiting);
                waiting.clear();
                if (!in(a[0], 1, 30)) {
                    return Due.BAD;
                }
                if (image == null) {
                    return Due.NO;
                }
                List<Long> due = new ArrayList<>();
                World w = image;
                for (int i = 0; i < a[0] && w.day < 99999; i++) {
                    w = w.after(1);
                    due.add((long) w.fairs());
                    due.add((long) (int) w.purses());
                }
                int same = 0;
                while (same < Math.min(told.size(), due.size()) && told.get(same).equals(due.get(same))) {
                    same++;
                }
                return same == told.size() && same == due.size() ? 0 : 1 + same;
            case "keep":
                image = new World(now);
                return now.places.size();
            case "back":
                if (image == null) {
                    return Due.NO;
                }
                now = new World(image);
                return now.places.size();
            default:
                if (!in(a[0], 0, 9)) {
                    return Due.BAD;
                }
                return new int[] {now.places.size(), now.day, now.rules[0], now.rules[1], now.rules[2],
                    (int) now.purses(), now.texts.size(), waiting.size(), tape.length(), now.z}[a[0]];
        }
    }
}
