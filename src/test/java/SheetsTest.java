/** Promises 26 to 34: sheets and slots. */
public final class SheetsTest {
    public static void main(String[] args) {
        sheet();
        mark();
        pour();
        reads();
        copy();
        lay();
        ask();
        item();
        rest();
        Due.end();
    }

    /** A place of a sheet, by a slot that the tests leave to this. */
    private static int at(BirthWeeks w, int sheet, int place) {
        w.lay(4, 2, sheet);
        return w.item(4, place);
    }

    private static void sheet() {
        BirthWeeks w = new BirthWeeks();
        Due.is("26: sheet(-1, 0, 1)", w.sheet(-1, 0, 1), Due.BAD);
        Due.is("26: sheet(4, 0, 1)", w.sheet(4, 0, 1), Due.BAD);
        Due.is("26: sheet(0, -2, 1)", w.sheet(0, -2, 1), Due.BAD);
        Due.is("26: sheet(0, 2, 1)", w.sheet(0, 2, 1), Due.BAD);
        Due.is("26: sheet(0, 0, 25)", w.sheet(0, 0, 25), Due.BAD);
        Due.is("26: sheet(0, 1, -1)", w.sheet(0, 1, -1), Due.SIZE);
        Due.is("26: BAD ahead of SIZE", w.sheet(4, 0, -1), Due.BAD);
        Due.is("26: BAD ahead of SIZE", w.sheet(0, 2, -1), Due.BAD);
        Due.is("26: still MISSING", w.mark(0, 0, 1), Due.NOTHING);
        Due.is("26: sheet(0, 0, 24)", w.sheet(0, 0, 24), 24);
        Due.is("26: sheet(3, 1, 0)", w.sheet(3, 1, 0), 0);
        Due.is("26: no places", w.mark(3, 0, 1), Due.INDEX);
        w.mark(0, 23, 5);
        w.mark(0, 0, 6);
        Due.is("26: refused, it stays", w.sheet(0, 1, -1), Due.SIZE);
        Due.is("26: refused, it stays", w.sheet(0, 1, 25), Due.BAD);
        Due.is("26: refused, it stays", at(w, 0, 23), 5);
        Due.is("26: sheet(0, 0, 24) again", w.sheet(0, 0, 24), 24);
        Due.is("26: all 0", at(w, 0, 23), 0);
        Due.is("26: all 0", at(w, 0, 0), 0);
        Due.is("26: MISSING, n any", w.sheet(0, -1, 99), 0);
        Due.is("26: MISSING", w.mark(0, 0, 1), Due.NOTHING);
        w.sheet(1, 1, 3);
        Due.is("26: MISSING, n any", w.sheet(1, -1, -99), 0);
        Due.is("26: MISSING", w.pour(1), Due.NOTHING);
    }

    private static void mark() {
        BirthWeeks w = new BirthWeeks();
        w.sheet(0, 0, 3);
        w.sheet(1, 1, 3);
        Due.is("27: mark(4, 0, 0)", w.mark(4, 0, 0), Due.BAD);
        Due.is("27: mark(-1, 0, 0)", w.mark(-1, 0, 0), Due.BAD);
        Due.is("27: NOTHING", w.mark(2, 0, 0), Due.NOTHING);
        Due.is("27: NOTHING ahead of INDEX", w.mark(2, -1, 0), Due.NOTHING);
        Due.is("27: INDEX", w.mark(0, 3, 0), Due.INDEX);
        Due.is("27: INDEX", w.mark(0, -1, 0), Due.INDEX);
        Due.is("27: INDEX ahead of KIND", w.mark(0, 3, Due.NONE), Due.INDEX);
        Due.is("27: INDEX ahead of BAD", w.mark(1, 3, 100000), Due.INDEX);
        Due.is("27: KIND", w.mark(0, 0, Due.NONE), Due.KIND);
        Due.is("27: BAD", w.mark(1, 0, 100000), Due.BAD);
        Due.is("27: BAD", w.mark(1, 0, -100000), Due.BAD);
        Due.is("27: refused", at(w, 1, 0), 0);
        int[][] shorts = {{5, 5}, {32767, 32767}, {32768, -32768}, {65536, 0}, {-1, -1}, {-32769, 32767},
            {0x12345678, 0x5678}, {Integer.MIN_VALUE, 0}};
        for (int[] pair : shorts) {
            Due.is("27: mark", w.mark(0, 2, pair[0]), 1);
            Due.is("27: the lowest 16 bits of " + pair[0], at(w, 0, 2), pair[1]);
        }
        int[] floats = {99999, -99999, 0, 1, 65536};
        for (int v : floats) {
            Due.is("27: mark", w.mark(1, 2, v), 1);
            Due.is("27: a float", at(w, 1, 2), v);
        }
        Due.is("27: NO NUMBER", w.mark(1, 2, Due.NONE), 1);
        Due.is("27: NO NUMBER", at(w, 1, 2), Due.KIND);
    }

    private static void pour() {
        BirthWeeks w = new BirthWeeks();
        Due.is("28: pour(4)", w.pour(4), Due.BAD);
        Due.is("28: pour(-1)", w.pour(-1), Due.BAD);
        Due.is("28: NOTHING", w.pour(0), Due.NOTHING);
        w.sheet(0, 1, 4);
        Due.is("28: no DISTRICTS", w.pour(0), 0);
        for (int i = 0; i < 5; i++) {
            w.district(i, 5);
        }
        w.mark(0, 0, -3);
        w.mark(0, 1, 99);
        w.mark(0, 2, Due.NONE);
        w.mark(0, 3, 5);
        Due.is("28: two are otherwise", w.pour(0), 2);
        int[] due = {0, 9, 5, 5, 5};
        for (int i = 0; i < 5; i++) {
            Due.is("28: RATE of " + i, w.told(i, 1), due[i]);
        }
        Due.is("28: none is otherwise", w.pour(0), 0);
        w.sheet(1, 0, 24);
        Due.is("28: a longer SHEET", w.pour(1), 4);
    }

    private static void reads() {
        BirthWeeks w = new BirthWeeks();
        w.district(0, 3);
        w.district(5, 0);
        w.days(1);
        Due.is("29: reads(4, 0)", w.reads(4, 0), Due.BAD);
        Due.is("29: reads(-1, 0)", w.reads(-1, 0), Due.BAD);
        Due.is("29: BAD ahead of NOTHING", w.reads(0, 2), Due.BAD);
        Due.is("29: BAD ahead of NOTHING", w.reads(0, -1), Due.BAD);
        Due.is("29: NOTHING", w.reads(0, 0), Due.NOTHING);
        w.sheet(0, 1, 0);
        Due.is("29: no places", w.reads(0, 1), Due.NONE);
        w.sheet(0, 1, 11);
        int[] places = {1, 2, 3, 4, 5, 6, 0, 1, 0, 1, 0};
        for (int k = 0; k < places.length; k++) {
            Due.is("29: place " + k + " is not", w.reads(0, 1), k == 6 || k == 8 ? k + 1 : k == 10 ? Due.NONE : k);
            w.mark(0, k, places[k]);
        }
        Due.is("29: none", w.reads(0, 1), Due.NONE);
        w.mark(0, 4, 9);
        w.mark(0, 9, 9);
        Due.is("29: the first", w.reads(0, 1), 4);
        w.mark(0, 4, Due.NONE);
        Due.is("29: of numbers alone", w.reads(0, 1), 9);
        Due.is("29: by its own DISTRICT", w.reads(0, 0) >= 6 || w.reads(0, 0) == Due.NONE ? 1 : 0, 1);
    }

    private static BirthWeeks twoRows() {
        BirthWeeks w = new BirthWeeks();
        w.sheet(0, 1, 5);
        w.sheet(1, 1, 3);
        w.sheet(2, 0, 5);
        for (int k = 0; k < 5; k++) {
            w.mark(0, k, 10 + k);
        }
        w.mark(0, 2, Due.NONE);
        return w;
    }

    private static void copy() {
        BirthWeeks w = twoRows();
        Due.is("30: copy(4, ..)", w.copy(4, 0, 1, 0, 1), Due.BAD);
        Due.is("30: copy(-1, ..)", w.copy(-1, 0, 1, 0, 1), Due.BAD);
        Due.is("30: copy(.., 4, ..)", w.copy(0, 0, 4, 0, 1), Due.BAD);
        Due.is("30: BAD ahead of NOTHING", w.copy(3, 0, 4, 0, 1), Due.BAD);
        Due.is("30: NOTHING", w.copy(3, 0, 0, 0, 1), Due.NOTHING);
        Due.is("30: NOTHING", w.copy(0, 0, 3, 0, 1), Due.NOTHING);
        Due.is("30: NOTHING ahead of INDEX", w.copy(0, 9, 3, 0, 1), Due.NOTHING);
        Due.is("30: KIND", w.copy(0, 0, 2, 0, 1), Due.KIND);
        Due.is("30: KIND ahead of INDEX", w.copy(0, 0, 2, 0, -1), Due.KIND);
        int[][] wrong = {{-1, 0, 1}, {0, -1, 1}, {0, 0, -1}, {0, 0, 4}, {3, 0, 3}, {0, 1, 3}, {6, 0, 0}, {0, 4, 0},
            {5, 0, 1}, {0, 3, 1}, {Integer.MAX_VALUE, 0, Integer.MAX_VALUE}, {1, 0, Integer.MAX_VALUE},
            {0, Integer.MAX_VALUE, 1}, {Integer.MIN_VALUE, 0, 0}, {0, 0, Integer.MIN_VALUE}};
        for (int[] c : wrong) {
            Due.is("30: INDEX " + c[0] + " " + c[1] + " " + c[2], w.copy(0, c[0], 1, c[1], c[2]), Due.INDEX);
        }
        Due.is("30: none, behind the last ones", w.copy(0, 5, 1, 3, 0), 0);
        Due.is("30: none", w.copy(0, 0, 1, 0, 0), 0);
        Due.is("30: nothing came", at(w, 1, 0), 0);
        Due.is("30: three", w.copy(0, 1, 1, 0, 3), 3);
        Due.is("30: first", at(w, 1, 0), 11);
        Due.is("30: NO NUMBER, too", at(w, 1, 1), Due.KIND);
        Due.is("30: last", at(w, 1, 2), 13);
        Due.is("30: upwards in one", w.copy(0, 0, 0, 1, 4), 4);
        int[] up = {10, 10, 11, Due.KIND, 13};
        Due.is("30: upwards in one", rowIs(w, up), 1);
        w = twoRows();
        w.copy(0, 1, 0, 0, 4);
        int[] down = {11, Due.KIND, 13, 14, 14};
        Due.is("30: downwards in one", rowIs(w, down), 1);
        Due.is("30: shorts", w.copy(2, 0, 2, 2, 3), 3);
    }

    private static int rowIs(BirthWeeks w, int[] due) {
        for (int k = 0; k < due.length; k++) {
            if (at(w, 0, k) != due[k]) {
                return -k;
            }
        }
        return 1;
    }

    private static void lay() {
        BirthWeeks w = new BirthWeeks();
        w.district(3, 4);
        w.sheet(0, 0, 2);
        Due.is("31: lay(5, 0, 0)", w.lay(5, 0, 0), Due.BAD);
        Due.is("31: lay(-1, 0, 0)", w.lay(-1, 0, 0), Due.BAD);
        Due.is("31: lay(0, 4, 0)", w.lay(0, 4, 0), Due.BAD);
        Due.is("31: lay(0, -1, 0)", w.lay(0, -1, 0), Due.BAD);
        Due.is("31: no such DISTRICT", w.lay(0, 1, 1), Due.BAD);
        Due.is("31: no such DISTRICT", w.lay(0, 1, -1), Due.BAD);
        Due.is("31: no such SHEET", w.lay(0, 2, 4), Due.BAD);
        Due.is("31: no such SHEET", w.lay(0, 2, -1), Due.BAD);
        Due.is("31: MISSING", w.lay(0, 2, 1), Due.NOTHING);
        Due.is("31: it held nothing", w.lay(0, 3, 77), 0);
        Due.is("31: refused", w.lay(0, 2, 1), Due.NOTHING);
        Due.is("31: refused", w.lay(0, 1, 1), Due.BAD);
        Due.is("31: it stays", w.rest(0, 10), 7);
        Due.is("31: it held a number", w.lay(0, 2, 0), 3);
        Due.is("31: it held a SHEET", w.lay(0, 1, 0), 2);
        Due.is("31: it held a DISTRICT", w.lay(0, 0, 12345), 1);
        Due.is("31: it held nothing", w.lay(0, 0, -1), 0);
        Due.is("31: nothing", w.rest(0, 1), Due.NOTHING);
        w.lay(1, 1, 0);
        w.keep();
        w.lay(2, 3, 5);
        w.back();
        Due.is("31: an IMAGE does not keep SLOTS", w.rest(2, 3), 2);
    }

    private static void ask() {
        String[] of = {"0", "01", "02", "013", "024", "05"};
        int[] worth = {4, 6, 26, 12, 22, 11};
        BirthWeeks w = new BirthWeeks();
        w.district(0, 4);
        for (int kind = 0; kind < 6; kind++) {
            w.turns(0, kind);
            w.lay(0, 1, 0);
            for (int asked = 0; asked < 6; asked++) {
                boolean so = of[kind].indexOf('0' + asked) >= 0;
                Due.is("32: " + kind + " asked as " + asked, w.ask(0, asked), so ? worth[kind] : Due.KIND);
            }
        }
        w.turns(0, 0);
        w.set(0, 1, 9);
        Due.is("32: as it was, for good", w.ask(0, 5), 11);
        Due.is("32: ask(5, 0)", w.ask(5, 0), Due.BAD);
        Due.is("32: ask(-1, 0)", w.ask(-1, 0), Due.BAD);
        Due.is("32: BAD ahead of NOTHING", w.ask(1, 6), Due.BAD);
        Due.is("32: BAD ahead of NOTHING", w.ask(1, -1), Due.BAD);
        Due.is("32: NOTHING", w.ask(1, 0), Due.NOTHING);
        w.lay(1, 3, 0);
        Due.is("32: a number", w.ask(1, 0), Due.KIND);
        w.sheet(0, 0, 1);
        w.lay(1, 2, 0);
        Due.is("32: a SHEET", w.ask(1, 0), Due.KIND);
    }

    private static void item() {
        BirthWeeks w = new BirthWeeks();
        w.district(0, 1);
        w.sheet(0, 1, 2);
        w.mark(0, 0, 42);
        w.mark(0, 1, Due.NONE);
        w.lay(0, 2, 0);
        Due.is("33: item(0, 0)", w.item(0, 0), 42);
        Due.is("33: NO NUMBER", w.item(0, 1), Due.KIND);
        Due.is("33: INDEX", w.item(0, 2), Due.INDEX);
        Due.is("33: INDEX", w.item(0, -1), Due.INDEX);
        Due.is("33: item(5, 0)", w.item(5, 0), Due.BAD);
        Due.is("33: item(-1, 0)", w.item(-1, 0), Due.BAD);
        Due.is("33: NOTHING", w.item(1, -1), Due.NOTHING);
        w.mark(0, 0, 43);
        Due.is("33: a row of its own", w.item(0, 0), 42);
        w.sheet(0, -1, 0);
        Due.is("33: MISSING since then", w.item(0, 0), 42);
        w.lay(1, 1, 0);
        Due.is("33: a DISTRICT", w.item(1, 0), Due.KIND);
        w.lay(1, 3, 0);
        Due.is("33: a number, KIND ahead of INDEX", w.item(1, -1), Due.KIND);
        w.sheet(0, 0, 1);
        w.mark(0, 0, 40000);
        w.lay(1, 2, 0);
        Due.is("33: a short", w.item(1, 0), 40000 - 65536);
    }

    private static void rest() {
        BirthWeeks w = new BirthWeeks();
        w.district(0, 1);
        w.lay(0, 3, -17);
        Due.is("34: rest(0, 5)", w.rest(0, 5), -2);
        Due.is("34: rest(0, -5)", w.rest(0, -5), -2);
        Due.is("34: rest(0, 0)", w.rest(0, 0), Due.NO);
        w.lay(0, 3, 17);
        Due.is("34: rest(0, -5)", w.rest(0, -5), 2);
        w.lay(0, 3, Integer.MIN_VALUE);
        Due.is("34: the least by -1", w.rest(0, -1), 0);
        Due.is("34: rest(5, 1)", w.rest(5, 1), Due.BAD);
        Due.is("34: rest(-1, 1)", w.rest(-1, 1), Due.BAD);
        Due.is("34: NOTHING ahead of NO", w.rest(1, 0), Due.NOTHING);
        w.lay(1, 1, 0);
        Due.is("34: KIND ahead of NO", w.rest(1, 0), Due.KIND);
        w.sheet(0, 0, 1);
        w.lay(1, 2, 0);
        Due.is("34: a SHEET", w.rest(1, 1), Due.KIND);
    }
}
