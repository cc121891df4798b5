/** Promises 35 to 39: rows that are told and checked, images, counts. */
public final class RowsTest {
    public static void main(String[] args) {
        tell();
        check();
        checkByTheImage();
        checkAtTheLastDay();
        keepAndBack();
        textsOfAnImage();
        newBehindAnImage();
        sixDistricts();
        count();
        Due.end();
    }

    private static void tell() {
        BirthWeeks w = new BirthWeeks();
        for (int i = 1; i <= 60; i++) {
            Due.is("35: tell", w.tell(-i), i);
        }
        Due.is("35: a 61st", w.tell(0), Due.FULL);
        Due.is("35: 60 wait", w.count(7), 60);
    }

    /** Tells what days tell, by living them on a second object, less the last so many numbers. */
    private static int tellDays(BirthWeeks w, BirthWeeks twin, int n, int less, int wrongAt) {
        int told = 0;
        for (int day = 0; day < n; day++) {
            twin.days(1);
            int fairs = 0;
            for (int i = 0; i < twin.count(0); i++) {
                fairs += twin.told(i, 9);
            }
            int[] pair = {fairs, twin.count(5)};
            for (int v : pair) {
                if (told < 2 * n - less) {
                    w.tell(told == wrongAt ? v + 1 : v);
                    told++;
                }
            }
        }
        return told;
    }

    private static BirthWeeks someDistricts() {
        BirthWeeks w = new BirthWeeks();
        w.seed(123456);
        w.deal(5);
        w.days(12);
        w.rule(2, 1);
        return w;
    }

    private static void check() {
        BirthWeeks w = someDistricts();
        w.tell(1);
        Due.is("36: BAD ahead of NO", w.check(0), Due.BAD);
        Due.is("36: none wait then", w.count(7), 0);
        w.tell(1);
        Due.is("36: no IMAGE", w.check(1), Due.NO);
        Due.is("36: none wait then", w.count(7), 0);
        w.keep();
        w.tell(1);
        Due.is("36: check(31)", w.check(31), Due.BAD);
        Due.is("36: none wait then", w.count(7), 0);
        Due.is("36: check(-1)", w.check(-1), Due.BAD);
        for (int n : new int[] {1, 7, 30}) {
            checkOf(n);
        }
        for (int wrong = 0; wrong < 8; wrong++) {
            w = kept();
            tellDays(w, someDistricts(), 4, 0, wrong);
            Due.is("36: the first that is not", w.check(4), 1 + wrong);
        }
    }

    private static void checkOf(int n) {
        BirthWeeks w = kept();
        tellDays(w, someDistricts(), n, 0, -1);
        Due.is("36: all stand", w.check(n), 0);
        Due.is("36: none wait then", w.count(7), 0);
        Due.is("36: all are missing", w.check(n), 1);
        tellDays(w, someDistricts(), n, 1, -1);
        Due.is("36: the last is missing", w.check(n), 2 * n);
        if (n < 30) {
            tellDays(w, someDistricts(), n, 0, -1);
            w.tell(0);
            Due.is("36: one too many", w.check(n), 1 + 2 * n);
            tellDays(w, someDistricts(), n + 1, 0, -1);
            Due.is("36: two too many", w.check(n), 1 + 2 * n);
        }
    }

    private static BirthWeeks kept() {
        BirthWeeks w = someDistricts();
        w.keep();
        return w;
    }

    private static void checkByTheImage() {
        BirthWeeks w = someDistricts();
        w.keep();
        String ahead = Due.state(w);
        tellDays(w, someDistricts(), 5, 0, -1);
        w.check(5);
        Due.holds("36: it is only thought", ahead.equals(Due.state(w)));
        w.days(9);
        w.rule(0, 7);
        w.rule(1, 7);
        w.rule(2, 7);
        w.seed(7);
        w.turns(0, 5);
        w.set(1, 3, 500);
        Due.text(w, "birth 9");
        Due.text(w, "wage 9");
        w.district(1, 1);
        tellDays(w, someDistricts(), 12, 0, -1);
        Due.is("36: by THE IMAGE, not as all is now", w.check(12), 0);
        w.back();
        Due.holds("38: as THE IMAGE", ahead.equals(Due.state(w)));
        noDistricts();
    }

    private static void noDistricts() {
        BirthWeeks w = new BirthWeeks();
        Due.is("37: keep()", w.keep(), 0);
        w.tell(0);
        w.tell(0);
        w.tell(0);
        w.tell(0);
        Due.is("36: without DISTRICTS", w.check(2), 0);
    }

    private static void checkAtTheLastDay() {
        BirthWeeks w = new BirthWeeks();
        for (int i = 0; i < 333; i++) {
            w.days(300);
        }
        w.days(97);
        w.district(5, 0);
        w.keep();
        w.tell(0);
        w.tell(-2);
        w.tell(1);
        w.tell(-4);
        Due.is("36: two days are left", w.check(30), 0);
        w.tell(0);
        w.tell(-2);
        w.tell(1);
        w.tell(-4);
        w.tell(0);
        Due.is("36: no third", w.check(3), 5);
        w.tell(0);
        w.tell(-2);
        Due.is("36: one is asked for", w.check(1), 0);
        w.days(300);
        w.tell(0);
        w.tell(-2);
        w.tell(1);
        w.tell(-4);
        Due.is("36: THE DAY of THE IMAGE", w.check(2), 0);
        w.keep();
        Due.is("36: no days are left", w.check(9), 0);
        w.tell(1);
        Due.is("36: one too many", w.check(9), 1);
    }

    private static void keepAndBack() {
        BirthWeeks w = someDistricts();
        Due.is("38: no IMAGE", w.back(), Due.NO);
        w.hide(0);
        Due.text(w, "wage l");
        w.rule(0, 11);
        w.rule(1, 12);
        Due.is("37: keep()", w.keep(), 5);
        String ahead = Due.state(w);
        for (int again = 0; again < 3; again++) {
            w.days(50);
            w.deal(1);
            w.turns(2, 5);
            w.set(3, 2, 50);
            w.hide(4);
            w.rule(0, 1);
            w.rule(1, 1);
            w.rule(2, 50);
            Due.text(w, "wage 5");
            Due.text(w, "birth 5");
            Due.text(w, "fine 5");
            Due.is("38: back()", w.back(), 5);
            Due.holds("38: again and again", ahead.equals(Due.state(w)));
        }
        w.sheet(0, 0, 3);
        w.mark(0, 1, 8);
        w.lay(0, 2, 0);
        w.tell(1);
        w.feed(0, 0, 0);
        w.back();
        Due.is("38: a SHEET stays", w.mark(0, 2, 8), 1);
        Due.is("38: a SLOT stays", w.item(0, 1), 8);
        Due.is("38: numbers still wait", w.count(7), 1);
        Due.is("38: THE TAPE stays", w.count(8), 12);
        w.days(1);
        Due.is("37: another IMAGE", w.keep(), 5);
        int day = w.count(1);
        w.days(5);
        w.back();
        Due.is("37: the last one", w.count(1), day);
    }

    private static void textsOfAnImage() {
        BirthWeeks w = new BirthWeeks();
        Due.text(w, "fine 1");
        w.keep();
        Due.is("38: TEXTS", Due.text(w, "fine 2"), 1);
        Due.is("38: TEXTS", w.fine(), 2);
        w.back();
        Due.is("38: one TEXT", w.count(6), 1);
        Due.is("38: the first counts", w.why(2), 0);
        Due.is("38: the first counts", w.fine(), 1);
        Due.is("38: no second", w.textTold(1, 0), Due.BAD);
        Due.is("38: another second", Due.text(w, "birth 3 + x"), 1);
        Due.is("38: another second", w.textTold(1, 1), 2);
        Due.is("38: the first counts", w.fine(), 1);
    }

    private static void newBehindAnImage() {
        BirthWeeks w = new BirthWeeks();
        w.keep();
        w.district(5, 3);
        w.set(0, 2, 9);
        w.days(13);
        w.hide(0);
        w.back();
        Due.is("38: no DISTRICTS", w.told(0, 0), Due.BAD);
        w.district(4, 2);
        int[] due = {4, 2, 0, 7, 0, 0, 0, 0};
        for (int what = 0; what < due.length; what++) {
            Due.is("38: a new DISTRICT has nothing of an old one, " + what, w.told(0, what), due[what]);
        }
    }

    private static void sixDistricts() {
        BirthWeeks w = new BirthWeeks();
        for (int i = 0; i < 6; i++) {
            w.district(5, i);
        }
        w.keep();
        w.days(2);
        Due.is("39: PURSES of six", w.count(5), -24);
        Due.text(w, "fine b");
        Due.is("20: BORN of six", w.fine(), 30);
        w.tell(0);
        w.tell(-12);
        w.tell(6);
        w.tell(-24);
        Due.is("36: FAIRS and PURSES of six", w.check(2), 0);
        w.sheet(0, 0, 24);
        Due.is("28: RATES of six", w.pour(0), 5);
        w.back();
        Due.is("38: six", w.back(), 6);
        // one goes, and is not counted any more
        BirthWeeks v = new BirthWeeks();
        v.district(5, 1);
        v.keep();
        v.district(5, 1);
        v.days(2);
        v.set(1, 3, 77);
        v.back();
        v.rule(2, 0);
        Due.text(v, "fine b");
        Due.is("39: PURSES of one", v.count(5), 0);
        Due.is("20: BORN of one", v.fine(), 0);
        v.sheet(0, 0, 24);
        Due.is("28: RATES of one", v.pour(0), 1);
    }

    private static void count() {
        BirthWeeks w = new BirthWeeks();
        w.district(5, 3);
        w.district(5, 3);
        w.days(4);
        w.set(0, 3, 50);
        w.rule(0, 30);
        w.rule(1, 31);
        w.rule(2, 32);
        Due.text(w, "fine 3");
        w.tell(1);
        w.tell(2);
        w.feed(1, 2, 3);
        w.seed(-4);
        int[] due = {2, 4, 30, 31, 32, 42, 1, 2, 12, -4};
        for (int what = 0; what < due.length; what++) {
            Due.is("39: count(" + what + ")", w.count(what), due[what]);
        }
        Due.is("39: count(-1)", w.count(-1), Due.BAD);
        Due.is("39: count(10)", w.count(10), Due.BAD);
    }
}
