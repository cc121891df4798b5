/** Promises 1 to 11: a new object, and districts. */
public final class DistrictsTest {
    public static void main(String[] args) {
        aNewObject();
        district();
        told();
        births();
        birthsWithText();
        as();
        turns();
        set();
        hide();
        rule();
        deal();
        seed();
        Due.end();
    }

    private static void aNewObject() {
        BirthWeeks w = new BirthWeeks();
        int[] due = {0, 0, 20, 2, 2, 0, 0, 0, 0, 1};
        for (int what = 0; what < due.length; what++) {
            Due.is("1: count(" + what + ")", w.count(what), due[what]);
        }
        Due.is("1: told(0, 0)", w.told(0, 0), Due.BAD);
        for (int key = 0; key < 3; key++) {
            Due.is("1: why(" + key + ")", w.why(key), Due.NONE);
        }
        for (int sheet = 0; sheet < 4; sheet++) {
            Due.is("1: mark(" + sheet + ", 0, 0)", w.mark(sheet, 0, 0), Due.NOTHING);
        }
        for (int slot = 0; slot < 5; slot++) {
            Due.is("1: rest(" + slot + ", 1)", w.rest(slot, 1), Due.NOTHING);
        }
        Due.is("1: back()", w.back(), Due.NO);
        Due.is("1: BAD", BirthWeeks.BAD, Due.BAD);
        Due.is("1: NO", BirthWeeks.NO, Due.NO);
        Due.is("1: FULL", BirthWeeks.FULL, Due.FULL);
        Due.is("1: NONE", BirthWeeks.NONE, Due.NONE);
        Due.is("1: NOTHING", BirthWeeks.NOTHING, Due.NOTHING);
        Due.is("1: KIND", BirthWeeks.KIND, Due.KIND);
        Due.is("1: INDEX", BirthWeeks.INDEX, Due.INDEX);
        Due.is("1: SIZE", BirthWeeks.SIZE, Due.SIZE);
    }

    private static void district() {
        BirthWeeks w = new BirthWeeks();
        Due.is("2: district(-1, 0)", w.district(-1, 0), Due.BAD);
        Due.is("2: district(0, -1)", w.district(0, -1), Due.BAD);
        Due.is("2: district(0, 10)", w.district(0, 10), Due.BAD);
        Due.is("2: district(6, 0)", w.district(6, 0), Due.BAD);
        Due.is("2: none came", w.count(0), 0);
        for (int i = 0; i < 6; i++) {
            Due.is("2: district(" + i + ", 9)", w.district(i, i == 0 ? 0 : 9), i);
        }
        Due.is("2: a seventh", w.district(0, 0), Due.FULL);
        Due.is("2: BAD ahead of FULL", w.district(6, 0), Due.BAD);
        Due.is("2: BAD ahead of FULL", w.district(0, 10), Due.BAD);
        Due.is("2: six", w.count(0), 6);
        Due.is("2: no draw", w.count(9), 1);
    }

    private static void told() {
        BirthWeeks w = new BirthWeeks();
        w.district(4, 6);
        int[] due = {4, 6, 0, 7, 0, 0, 0, 0, 20, 0};
        for (int what = 0; what < due.length; what++) {
            Due.is("3: told(0, " + what + ")", w.told(0, what), due[what]);
        }
        Due.is("3: told(0, -1)", w.told(0, -1), Due.BAD);
        Due.is("3: told(0, 10)", w.told(0, 10), Due.BAD);
        Due.is("3: told(-1, 0)", w.told(-1, 0), Due.BAD);
        Due.is("3: told(1, 0)", w.told(1, 0), Due.BAD);
        int[] worth = {6, 8, 24, 16, 20, 11};
        for (int kind = 0; kind < 6; kind++) {
            w.turns(0, kind);
            Due.is("3: WORTH of kind " + kind, w.told(0, 8), worth[kind]);
        }
        w.rule(2, 0);
        Due.is("3: FAIR on 0", w.told(0, 9), 1);
        w.days(1);
        Due.is("3: no FAIR on 1", w.told(0, 9), 0);
    }

    private static void births() {
        BirthWeeks w = new BirthWeeks();
        w.district(0, 3);
        int[][] due = {{7, 7, 7}, {3, 3, 3}, {8, 8, 8}, {0, 3, 3}, {8, 8, 16}, {3, 3, 3}};
        w.set(0, 2, 3);
        for (int place = 0; place < 3; place++) {
            for (int kind = 0; kind < 6; kind++) {
                w.turns(0, kind);
                Due.is("4: kind " + kind + " on place " + place, w.births(0, 7), due[kind][place]);
            }
            w.days(1);
        }
        Due.is("4: births(0, 0)", w.births(0, 0), 3);
        Due.is("4: births(0, 9)", w.births(0, 9), 3);
        Due.is("4: births(0, -1)", w.births(0, -1), Due.BAD);
        Due.is("4: births(0, 10)", w.births(0, 10), Due.BAD);
        Due.is("4: births(1, 0)", w.births(1, 0), Due.BAD);
        Due.is("4: births(-1, 0)", w.births(-1, 0), Due.BAD);
    }

    private static void birthsWithText() {
        BirthWeeks w = new BirthWeeks();
        w.district(0, 3);
        Due.is("4: text", Due.text(w, "birth x * 10 - 5"), 0);
        int[][] due = {{0, 5, 30}, {0, 2, 15}, {1, 6, 31}, {0, 0, 0}, {1, 6, 31}, {3, 3, 3}};
        int[] x = {0, 1, 9};
        for (int kind = 0; kind < 6; kind++) {
            w.turns(0, kind);
            for (int i = 0; i < 3; i++) {
                Due.is("4: with a TEXT, kind " + kind, w.births(0, x[i]), due[kind][i]);
            }
        }
        w.turns(0, 4);
        w.set(0, 2, 2);
        w.days(1);
        Due.is("4: a FEAST on the last day", w.births(0, 9), 62);
        Due.text(w, "birth l * 10 + p");
        w.turns(0, 0);
        Due.is("4: LONG and PLACE", w.births(0, 9), 21);
    }

    private static void as() {
        String[] of = {"0", "01", "02", "013", "024", "05"};
        BirthWeeks w = new BirthWeeks();
        for (int i = 0; i < 6; i++) {
            w.district(i, i + 2);
            for (int kind = 0; kind < 6; kind++) {
                boolean so = of[i].indexOf('0' + kind) >= 0;
                Due.is("5: as(" + i + ", " + kind + ")", w.as(i, kind), so ? i + 2 : Due.KIND);
            }
        }
        Due.is("5: as(0, 6)", w.as(0, 6), Due.BAD);
        Due.is("5: as(0, -1)", w.as(0, -1), Due.BAD);
        Due.is("5: as(6, 0)", w.as(6, 0), Due.BAD);
        Due.is("5: as(-1, 0)", w.as(-1, 0), Due.BAD);
    }

    private static void turns() {
        BirthWeeks w = new BirthWeeks();
        w.district(3, 7);
        w.days(9);
        String rest = w.told(0, 1) + " " + w.told(0, 3) + " " + w.told(0, 4) + " " + w.told(0, 5);
        Due.is("6: turns(0, 5)", w.turns(0, 5), 3);
        Due.is("6: turns(0, 5)", w.turns(0, 5), 5);
        Due.is("6: turns(0, 6)", w.turns(0, 6), Due.BAD);
        Due.is("6: turns(0, -1)", w.turns(0, -1), Due.BAD);
        Due.is("6: turns(1, 0)", w.turns(1, 0), Due.BAD);
        Due.is("6: KIND", w.told(0, 0), 5);
        Due.holds("6: the rest stays", rest.equals(
                w.told(0, 1) + " " + w.told(0, 3) + " " + w.told(0, 4) + " " + w.told(0, 5)));
    }

    private static void set() {
        BirthWeeks w = new BirthWeeks();
        w.district(0, 3);
        w.days(3);
        Due.is("7: set(0, 1, 9)", w.set(0, 1, 9), 3);
        Due.is("7: set(0, 1, 0)", w.set(0, 1, 0), 9);
        Due.is("7: set(0, 1, -1)", w.set(0, 1, -1), Due.BAD);
        Due.is("7: set(0, 1, 10)", w.set(0, 1, 10), Due.BAD);
        Due.is("7: RATE", w.told(0, 1), 0);
        Due.is("7: set(0, 2, 1)", w.set(0, 2, 1), Due.BAD);
        Due.is("7: set(0, 2, 61)", w.set(0, 2, 61), Due.BAD);
        Due.is("7: PLACE stays where LONG is refused", w.told(0, 4), 3);
        Due.is("7: set(0, 2, 7)", w.set(0, 2, 7), 7);
        Due.is("7: PLACE is 0 then", w.told(0, 4), 0);
        Due.is("7: set(0, 2, 60)", w.set(0, 2, 60), 7);
        Due.is("7: set(0, 2, 2)", w.set(0, 2, 2), 60);
        Due.is("7: LONG", w.told(0, 3), 2);
        Due.is("7: set(0, 3, 99999)", w.set(0, 3, 99999), -6);
        Due.is("7: set(0, 3, -99999)", w.set(0, 3, -99999), 99999);
        Due.is("7: set(0, 3, 100000)", w.set(0, 3, 100000), Due.BAD);
        Due.is("7: set(0, 3, -100000)", w.set(0, 3, -100000), Due.BAD);
        Due.is("7: PURSE", w.told(0, 7), -99999);
        Due.is("7: set(0, 0, 2)", w.set(0, 0, 2), Due.BAD);
        Due.is("7: set(0, 4, 2)", w.set(0, 4, 2), Due.BAD);
        Due.is("7: set(1, 1, 2)", w.set(1, 1, 2), Due.BAD);
        Due.is("7: set(-1, 1, 2)", w.set(-1, 1, 2), Due.BAD);
    }

    private static void hide() {
        BirthWeeks w = new BirthWeeks();
        w.district(5, 2);
        Due.is("8: hide(0)", w.hide(0), Due.NO);
        w.days(1);
        Due.is("8: hide(0)", w.hide(0), 1);
        Due.is("8: hide(0)", w.hide(0), 2);
        Due.is("8: hide(0)", w.hide(0), Due.NO);
        Due.is("8: BORN", w.told(0, 5), 0);
        Due.is("8: HIDDEN", w.told(0, 6), 2);
        w.days(6);
        Due.is("8: LONG lacks what is hidden", w.told(0, 3), 12);
        Due.is("8: BORN becomes HIDDEN", w.told(0, 5), 2);
        Due.is("8: HIDDEN is 0", w.told(0, 6), 0);
        Due.is("8: hide(1)", w.hide(1), Due.BAD);
        Due.is("8: hide(-1)", w.hide(-1), Due.BAD);
    }

    private static void rule() {
        BirthWeeks w = new BirthWeeks();
        int[] first = {20, 2, 2};
        int[] most = {999, 99, 59};
        for (int what = 0; what < 3; what++) {
            Due.is("9: the least", w.rule(what, 0), first[what]);
            Due.is("9: the most", w.rule(what, most[what]), 0);
            Due.is("9: too much", w.rule(what, most[what] + 1), Due.BAD);
            Due.is("9: too little", w.rule(what, -1), Due.BAD);
            Due.is("9: stays", w.count(2 + what), most[what]);
        }
        Due.is("9: rule(3, 1)", w.rule(3, 1), Due.BAD);
        Due.is("9: rule(-1, 1)", w.rule(-1, 1), Due.BAD);
    }

    private static void deal() {
        BirthWeeks w = new BirthWeeks();
        Due.is("10: deal(0)", w.deal(0), Due.BAD);
        Due.is("10: deal(7)", w.deal(7), Due.BAD);
        Due.is("10: no draw", w.count(9), 1);
        Due.is("10: deal(4)", w.deal(4), 4);
        int z = 1;
        for (int i = 0; i < 4; i++) {
            z = z * 1103515245 + 12345;
            Due.is("10: KIND of " + i, w.told(i, 0), (z >>> 8) % 6);
            z = z * 1103515245 + 12345;
            Due.is("10: RATE of " + i, w.told(i, 1), (z >>> 8) % 10);
            Due.is("10: LONG of " + i, w.told(i, 3), 7);
        }
        Due.is("10: z", w.count(9), z);
        Due.is("10: room for two", w.deal(6), 2);
        for (int i = 0; i < 4; i++) {
            z = z * 1103515245 + 12345;
        }
        Due.is("10: no draws for others", w.count(9), z);
        Due.is("10: no room", w.deal(1), 0);
        Due.is("10: no draws", w.count(9), z);
    }

    private static void seed() {
        BirthWeeks w = new BirthWeeks();
        Due.is("11: seed(5)", w.seed(5), 1);
        Due.is("11: seed(least)", w.seed(Integer.MIN_VALUE), 5);
        Due.is("11: z", w.count(9), Integer.MIN_VALUE);
        Due.is("11: seed(-1)", w.seed(-1), Integer.MIN_VALUE);
        w.district(0, 9);
        w.days(1);
        int z = -1 * 1103515245 + 12345;
        Due.is("11: the draw goes on from it", w.told(0, 5), (z >>> 8) % 10);
        Due.is("11: z behind it", w.count(9), z);
    }
}
